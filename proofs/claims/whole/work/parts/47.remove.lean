/-! Order: a tree is removed -/
def or_rw (h : zz_H) (w : Nat → Nat → Nat → Option Nat) (x : Nat → Nat → Option Nat) : zz_H := (h.1, h.2.1, w, h.2.2.2.1, x, h.2.2.2.2.2)
def or_tf (h : zz_H) (w : Nat → Nat → Nat → Option Nat) : Prop := ∀ c j b, ¬ (c = 2 ∧ j = 4) → w c j b = zz_fR h c j b
theorem or_rw_sm {h : zz_H} {w : Nat → Nat → Nat → Option Nat} (x : Nat → Nat → Option Nat) (hw : or_tf h w) : or_sm h (or_rw h w x) := ⟨rfl, fun _ _ _ _ _ => rfl, fun _ => Or.inr (Or.inr rfl), hw, rfl⟩
/-- the places of what is kept of the first n -/
noncomputable def or_kl (h : zz_H) (a t : Nat) : Nat → List Nat
  | 0 => []
  | n + 1 => @ite (List Nat) (or_in h a t n) (Classical.propDecidable _) (or_kl h a t n) (or_kl h a t n ++ [n])
theorem or_kl_in {h : zz_H} {a t n : Nat} (hi : or_in h a t n) : or_kl h a t (n + 1) = or_kl h a t n := by rw [or_kl, if_pos hi]
theorem or_kl_out {h : zz_H} {a t n : Nat} (hi : ¬ or_in h a t n) : or_kl h a t (n + 1) = or_kl h a t n ++ [n] := by rw [or_kl, if_neg hi]
theorem or_kl_le (h : zz_H) (a t : Nat) : ∀ n, (or_kl h a t n).length ≤ n
  | 0 => Nat.le_refl _
  | n + 1 => by
    have := or_kl_le h a t n
    by_cases hi : or_in h a t n
    · rw [or_kl_in hi]; omega
    · rw [or_kl_out hi, List.length_append]; simp; omega
theorem or_kl_lt (h : zz_H) (a t : Nat) : ∀ n j, j < (or_kl h a t n).length → (or_kl h a t n).getD j 0 < n
  | 0, j, hj => absurd hj (Nat.not_lt_zero _)
  | n + 1, j, hj => by
    have ih := or_kl_lt h a t n j
    by_cases hi : or_in h a t n
    · rw [or_kl_in hi] at hj ⊢
      have := ih hj; omega
    · rw [or_kl_out hi] at hj ⊢
      rw [List.length_append] at hj
      by_cases h1 : j < (or_kl h a t n).length
      · have := ih h1
        rw [List.getD_eq_getElem?_getD, List.getElem?_append_left h1, ← List.getD_eq_getElem?_getD]; omega
      · have e : j = (or_kl h a t n).length := by simp at hj; omega
        subst e
        simp
def or_U (h : zz_H) (a t i b : Nat) : Prop := ∃ j, j < i ∧ or_in h a t j ∧ (or_B h a j = b ∨ zz_fR h 2 4 (or_B h a j) = some b)
def or_J (h : zz_H) (a t i : Nat) (w : Nat → Nat → Nat → Option Nat) : Prop := ∀ b, (or_U h a t i b → w 2 4 b = none) ∧ (¬ or_U h a t i b → w 2 4 b = zz_fR h 2 4 b)
def or_sy (h : zz_H) (a : Nat) : Prop := ∀ j c, j < or_s h a → zz_fR h 2 4 (or_B h a j) = some c → zz_fR h 2 4 c = some (or_B h a j)
theorem or_U_mono {h : zz_H} {a t i b : Nat} (hu : or_U h a t i b) : or_U h a t (i + 1) b := by
  obtain ⟨j, h1, h2⟩ := hu
  exact ⟨j, by omega, h2⟩
theorem or_J_out {h : zz_H} {a t i : Nat} {w : Nat → Nat → Nat → Option Nat} (hJ : or_J h a t i w) (ho : ¬ or_in h a t i) : or_J h a t (i + 1) w := fun b => by
  refine ⟨fun ⟨j, h1, h2, h3⟩ => ?_, fun hu => (hJ b).2 (fun z => hu (or_U_mono z))⟩
  rcases Nat.lt_succ_iff_lt_or_eq.mp h1 with h1 | rfl
  · exact (hJ b).1 ⟨j, h1, h2, h3⟩
  · exact absurd h2 ho
theorem or_J_none {h : zz_H} {a t i : Nat} {w : Nat → Nat → Nat → Option Nat} (hJ : or_J h a t i w) (hs : or_sy h a) (hi : i < or_s h a) (hin : or_in h a t i) (hn : w 2 4 (or_B h a i) = none) : or_J h a t (i + 1) w := fun b => by
  refine ⟨fun ⟨j, h1, h2, h3⟩ => ?_, fun hu => (hJ b).2 (fun z => hu (or_U_mono z))⟩
  rcases Nat.lt_succ_iff_lt_or_eq.mp h1 with h1 | rfl
  · exact (hJ b).1 ⟨j, h1, h2, h3⟩
  · rcases h3 with h3 | h3
    · rw [← h3]; exact hn
    · by_cases hu : or_U h a t j (or_B h a j)
      · obtain ⟨q, h4, h5, h6⟩ := hu
        refine (hJ b).1 ⟨q, h4, h5, ?_⟩
        rcases h6 with h6 | h6
        · right; rw [h6]; exact h3
        · left
          have h7 := hs q _ (by omega) h6
          exact Option.some.inj (h7.symm.trans h3)
      · rw [(hJ _).2 hu, h3] at hn
        cases hn
def or_w2 (w : Nat → Nat → Nat → Option Nat) (b c : Nat) : Nat → Nat → Nat → Option Nat := fun q j d => if q = 2 ∧ j = 4 ∧ d = b then none else if q = 2 ∧ j = 4 ∧ d = c then none else w q j d
theorem or_w2_4 (w : Nat → Nat → Nat → Option Nat) (b c d : Nat) : or_w2 w b c 2 4 d = if d = b ∨ d = c then none else w 2 4 d := by
  rw [or_w2]
  by_cases h1 : d = b
  · rw [if_pos ⟨rfl, rfl, h1⟩, if_pos (Or.inl h1)]
  · rw [if_neg (fun z => h1 z.2.2)]
    by_cases h2 : d = c
    · rw [if_pos ⟨rfl, rfl, h2⟩, if_pos (Or.inr h2)]
    · rw [if_neg (fun z => h2 z.2.2), if_neg (fun z => z.elim h1 h2)]
theorem or_tf_2 {h : zz_H} {w : Nat → Nat → Nat → Option Nat} (ht : or_tf h w) (b c : Nat) : or_tf h (or_w2 w b c) := fun q j d hn => by
  rw [or_w2, if_neg (fun z => hn ⟨z.1, z.2.1⟩), if_neg (fun z => hn ⟨z.1, z.2.1⟩)]
  exact ht q j d hn
theorem or_J_some {h : zz_H} {a t i c : Nat} {w : Nat → Nat → Nat → Option Nat} (hJ : or_J h a t i w) (hin : or_in h a t i) (hn : w 2 4 (or_B h a i) = some c) : or_J h a t (i + 1) (or_w2 w (or_B h a i) c) := fun b => by
  have hu : ¬ or_U h a t i (or_B h a i) := fun z => by rw [(hJ _).1 z] at hn; cases hn
  have he : zz_fR h 2 4 (or_B h a i) = some c := by rw [← (hJ _).2 hu]; exact hn
  rw [or_w2_4]
  refine ⟨fun ⟨j, h1, h2, h3⟩ => ?_, fun hz => ?_⟩
  · by_cases hb : b = or_B h a i ∨ b = c
    · rw [if_pos hb]
    · rw [if_neg hb]
      rcases Nat.lt_succ_iff_lt_or_eq.mp h1 with h1 | rfl
      · exact (hJ b).1 ⟨j, h1, h2, h3⟩
      · rcases h3 with h3 | h3
        · exact absurd (Or.inl h3.symm) hb
        · exact absurd (Or.inr (Option.some.inj (h3.symm.trans he))) hb
  · rw [if_neg (fun hb => hz ⟨i, by omega, hin, by
      rcases hb with hb | hb
      · exact Or.inl hb.symm
      · right; rw [hb]; exact he⟩)]
    exact (hJ b).2 (fun z => hz (or_U_mono z))
def or_X (h : zz_H) (a t i : Nat) (x : Nat → Nat → Option Nat) : Prop := (∀ b j, b ≠ or_b h a → x b j = zz_aR h b j) ∧ (∀ j, i ≤ j → x (or_b h a) j = zz_aR h (or_b h a) j) ∧ ∀ j, j < (or_kl h a t i).length → x (or_b h a) j = zz_aR h (or_b h a) ((or_kl h a t i).getD j 0)
theorem or_X_in {h : zz_H} {a t i : Nat} {x : Nat → Nat → Option Nat} (hX : or_X h a t i x) (hin : or_in h a t i) : or_X h a t (i + 1) x := ⟨hX.1, fun j hj => hX.2.1 j (by omega), by rw [or_kl_in hin]; exact hX.2.2⟩
theorem or_X_out {h : zz_H} {a t i q : Nat} {x : Nat → Nat → Option Nat} (hX : or_X h a t i x) (hout : ¬ or_in h a t i) (hq : q = (or_kl h a t i).length) (hv : zz_aR h (or_b h a) i = some (or_B h a i)) : or_X h a t (i + 1) (fun b j => if b = or_b h a ∧ j = q then some (or_B h a i) else x b j) := by
  have hle := or_kl_le h a t i
  refine ⟨fun b j hb => ?_, fun j hj => ?_, fun j hj => ?_⟩
  · show (if b = or_b h a ∧ j = q then some (or_B h a i) else x b j) = _
    rw [if_neg (fun z => hb z.1)]; exact hX.1 b j hb
  · show (if or_b h a = or_b h a ∧ j = q then some (or_B h a i) else x (or_b h a) j) = _
    rw [if_neg (fun z => by have := z.2; omega)]; exact hX.2.1 j (by omega)
  · show (if or_b h a = or_b h a ∧ j = q then some (or_B h a i) else x (or_b h a) j) = _
    rw [or_kl_out hout] at hj ⊢
    by_cases h1 : j = q
    · rw [if_pos ⟨rfl, h1⟩, h1, hq, ← hv]
      congr 1
      simp
    · rw [if_neg (fun z => h1 z.2)]
      rw [List.length_append] at hj
      have h2 : j < (or_kl h a t i).length := by simp at hj; omega
      rw [hX.2.2 j h2, List.getD_eq_getElem?_getD, List.getD_eq_getElem?_getD, List.getElem?_append_left h2]
def or_X2 (h : zz_H) (a t : Nat) (x : Nat → Nat → Option Nat) : Prop := (∀ b j, b ≠ or_b h a → b ≠ or_n h a → x b j = zz_aR h b j) ∧ ∀ j, j < (or_kl h a t (or_s h a)).length → x (or_b h a) j = zz_aR h (or_b h a) ((or_kl h a t (or_s h a)).getD j 0)
theorem or_X2_s {h : zz_H} {a t i c : Nat} {x : Nat → Nat → Option Nat} {v : Option Nat} (hX : or_X2 h a t x) (hc : c = or_b h a ∨ c = or_n h a) (hi : (or_kl h a t (or_s h a)).length ≤ i) : or_X2 h a t (fun b j => if b = c ∧ j = i then v else x b j) := by
  refine ⟨fun b j h1 h2 => ?_, fun j hj => ?_⟩
  · show (if b = c ∧ j = i then v else x b j) = _
    rw [if_neg (fun z => hc.elim (fun w => h1 (z.1.trans w)) (fun w => h2 (z.1.trans w)))]; exact hX.1 b j h1 h2
  · show (if or_b h a = c ∧ j = i then v else x (or_b h a) j) = _
    rw [if_neg (fun z => by have := z.2; omega)]; exact hX.2 j hj
def or_rm (h : zz_H) (a q : Nat) (w : Nat → Nat → Nat → Option Nat) (x : Nat → Nat → Option Nat) : zz_H := zz_pI (or_rw h w x) 5 2 a (nI q)
theorem or_rm_sm {h : zz_H} {w : Nat → Nat → Nat → Option Nat} (a q : Nat) (x : Nat → Nat → Option Nat) (hw : or_tf h w) : or_sm h (or_rm h a q w x) := ⟨rfl, fun c j b hc _ => if_neg (fun z => hc z.1), fun _ => Or.inr (Or.inr rfl), hw, rfl⟩
theorem or_rm_ok {h : zz_H} {a t q : Nat} {w : Nat → Nat → Nat → Option Nat} {x : Nat → Nat → Option Nat} (hok : or_okB h a) (hw : or_tf h w) (hX : or_X2 h a t x) (hq : q = (or_kl h a t (or_s h a)).length) : or_okB (or_rm h a q w x) a ∧ or_s (or_rm h a q w x) a = q := by
  have hle := or_kl_le h a t (or_s h a)
  have hb := hok.1.2.2.2.2.2.1
  obtain ⟨h1, h2⟩ := or_sm_ok (q := q) (or_rm_sm a q x hw) hok.1 (if_pos ⟨rfl, rfl, rfl⟩) (by omega)
  refine ⟨⟨h1, fun i hi => ?_⟩, h2⟩
  rw [h2] at hi
  have e : zz_aR (or_rm h a q w x) (or_b h a) i = some (or_B h a ((or_kl h a t (or_s h a)).getD i 0)) := (hX.2 i (by omega)).trans (hok.2 _ (or_kl_lt h a t _ i (by omega)))
  rw [or_B, or_sm_b (or_rm_sm a q x hw), e]; rfl
theorem nI_sub9 {a b : Nat} (h : b ≤ a) : nI a - nI b = nI (a - b) := by
  have e : nI a = nI (a - b) + nI b := by rw [nI_add]; congr 1; omega
  rw [e]; exact Int32.add_sub_cancel _ _
def T_O_removeTree : zz_Tr := fun as h post => ∃ a t, as = [zz_r 5 (some a), zz_r 2 (some t)] ∧ or_okB h a ∧ sg_wf h ∧ or_sw h a ∧ or_sy h a ∧ ∀ w x h2, or_tf h w → or_J h a t (or_s h a) w → or_X2 h a t x → or_arr (or_rm h a (or_kl h a t (or_s h a)).length w x) a h2 → post (some (zz_i (nI (or_s h a - (or_kl h a t (or_s h a)).length)))) h2
set_option maxRecDepth 100000 in
set_option maxHeartbeats 4000000 in
theorem m_O_removeTree (l : Launch) : zz_Met l y_O_removeTree w_O_removeTree { frames := 6, cells := 0, slots := 0, locals := 125 } T_O_removeTree := by
  refine zz_ofZ (by decide) (fun as h post hT => ?_) ?_
  · obtain ⟨a, t, rfl, hok, hwf, hsw, hsy, hp⟩ := hT
    exact ⟨by simp [zz_cat], by simp⟩
  · intro D DA h as post hT p e s m args below meth c Q C hr hlk hnm hQ
    obtain ⟨a, t, rfl, hok, hwf, hsw, hsy, hp⟩ := hT
    have hb := hok.1.2.2.2.2.2.1
    have lp82 : ∀ q w x, q = (or_kl h a t (or_s h a)).length → or_tf h w → or_J h a t (or_s h a) w → or_X2 h a t x → ∀ n i, or_s h a + 1 ≤ n + i → i ≤ or_s h a → q ≤ i → zz_Z p l e { frames := 6, cells := 0, slots := 0, locals := 125 } s m args below meth c Q D DA (zz_A h s.heap.size) h 5 82 [some (zz_r 5 (some a)), some (zz_r 2 (some t)), some (zz_i (nI q)), some (zz_i (nI (or_s h a - q))), some (zz_i (nI i))] [] (or_rw h w x) 0 0 := by
      intro q w x hq htf hJ hX n
      induction n generalizing x with
      | zero =>
        intro i hni hi
        exact absurd hni (by omega)
      | succ n ih =>
        intro i hni hile hqi
        refine zz_iload (q := 84) (i := 4) C (by decide +kernel) rfl rfl ?_
        refine zz_aload_n (q := 85) (f := 0) (i := 0) C (by decide +kernel) rfl rfl rfl ?_
        refine zz_getI (q := 88) C gf_O_35 (by decide +kernel) rfl (by first | rfl | assumption) hok.1.2.2.2.2.2.2 ?_
        refine zz_icmp_ge (off := 25) (tgt := 113) (q := 91) C (by decide +kernel) (by decide) rfl (fun c88 => ?_) (fun c88 => ?_)
        · refine zz_aload_n (q := 114) (f := 0) (i := 0) C (by decide +kernel) rfl rfl rfl ?_
          refine zz_iload_n (q := 115) (f := 2) (i := 2) C (by decide +kernel) rfl rfl rfl ?_
          refine zz_putI (q := 118) C gf_O_35 (fun h => by cases h) (fun h => by cases h) (by decide +kernel) rfl (by first | rfl | assumption) ?_
          show zz_Z p l e _ s m args below meth c Q D DA (zz_A h s.heap.size) h _ _ _ _ (or_rm h a q w x) 0 0
          refine zz_aload_n (q := 119) (f := 0) (i := 0) C (by decide +kernel) rfl rfl rfl ?_
          refine zz_callV (q := 122) C (m_O_arrange l) cv_O_32 (by decide +kernel) rfl rfl rfl (by first | rfl | assumption) (by decide) (by decide) (Nat.le_of_ble_eq_true rfl) ⟨_, rfl, (or_rm_ok hok htf hX hq).1, or_sm_wf (or_rm_sm a q x htf) hwf, fun k hk => hsw k (((or_rm_sm a q x htf).2.2.2.1 5 3 a (by decide)).symm.trans hk), fun h2 hh => ?_⟩
          refine zz_iload_n (q := 123) (f := 3) (i := 3) C (by decide +kernel) rfl rfl rfl ?_
          refine zz_iret C hr hlk (by decide +kernel) hQ (by decide) (by decide) ?_
          subst hq
          exact hp w x h2 htf hJ hX hh
        · have hi : i < or_s h a := Nat.lt_of_not_le (fun z => c88 (nI_le z (by omega)))
          refine zz_aload_n (q := 92) (f := 0) (i := 0) C (by decide +kernel) rfl rfl rfl ?_
          refine zz_getR (q := 95) C gf_O_11 (by decide +kernel) rfl (by first | rfl | assumption) ((htf 5 0 a (by decide)).trans hok.1.1) ?_
          refine zz_iload (q := 97) (i := 4) C (by decide +kernel) rfl rfl ?_
          refine zz_null (q := 98) C 2 (by decide +kernel) rfl ?_
          refine zz_aastore (q := 99) C (ci := 2) 4 rfl rfl (by decide +kernel) rfl rfl hok.1.2.2.1 rfl (by omega) (by decide) ?_
          refine zz_aload_n (q := 100) (f := 0) (i := 0) C (by decide +kernel) rfl rfl rfl ?_
          refine zz_getR (q := 103) C gf_O_17 (by decide +kernel) rfl (by first | rfl | assumption) ((htf 5 1 a (by decide)).trans hok.1.2.1) ?_
          refine zz_iload (q := 105) (i := 4) C (by decide +kernel) rfl rfl ?_
          refine zz_null (q := 106) C 2 (by decide +kernel) rfl ?_
          refine zz_aastore (q := 107) C (ci := 2) 4 rfl rfl (by decide +kernel) rfl rfl hok.1.2.2.2.1 rfl (by omega) (by decide) ?_
          refine zz_iinc (q := 110) (i := 4) (n := 1) C (by decide +kernel) rfl rfl (nI_succ _).symm (by decide) rfl ?_
          refine zz_goto (off := -28) (tgt := 82) C (by decide +kernel) (by decide) ?_
          -- AT 82
          exact ih _ (or_X2_s (or_X2_s hX (Or.inl rfl) (by omega)) (Or.inr rfl) (by omega)) (i + 1) (by omega) (by omega) (by omega)
    have lp4 : ∀ n i, or_s h a + 1 ≤ n + i → i ≤ or_s h a → ∀ v9 q w x, q = (or_kl h a t i).length → or_tf h w → or_J h a t i w → or_X h a t i x → zz_Z p l e { frames := 6, cells := 0, slots := 0, locals := 125 } s m args below meth c Q D DA (zz_A h s.heap.size) h 5 4 [some (zz_r 5 (some a)), some (zz_r 2 (some t)), some (zz_i (nI q)), some (zz_i (nI i)), v9] [] (or_rw h w x) 0 0 := by
      intro n
      induction n with
      | zero =>
        intro i hni hi
        exact absurd hni (by omega)
      | succ n ih =>
        intro i hni hile v9 q w x hq htf hJ hX
        have hsm := or_rw_sm x htf
        have hql := or_kl_le h a t i
        refine zz_iload_n (q := 5) (f := 3) (i := 3) C (by decide +kernel) rfl rfl rfl ?_
        refine zz_aload_n (q := 6) (f := 0) (i := 0) C (by decide +kernel) rfl rfl rfl ?_
        refine zz_getI (q := 9) C gf_O_35 (by decide +kernel) rfl (by first | rfl | assumption) hok.1.2.2.2.2.2.2 ?_
        refine zz_icmp_ge (off := 63) (tgt := 72) (q := 12) C (by decide +kernel) (by decide) rfl (fun c9 => ?_) (fun c9 => ?_)
        · refine zz_aload_n (q := 73) (f := 0) (i := 0) C (by decide +kernel) rfl rfl rfl ?_
          refine zz_getI (q := 76) C gf_O_35 (by decide +kernel) rfl (by first | rfl | assumption) hok.1.2.2.2.2.2.2 ?_
          refine zz_iload_n (q := 77) (f := 2) (i := 2) C (by decide +kernel) rfl rfl rfl ?_
          refine zz_isub (q := 78) C (by decide +kernel) rfl (nI_sub9 (by omega)) ?_
          refine zz_istore_n (q := 79) (f := 3) (i := 3) C (by decide +kernel) rfl rfl (by decide) rfl ?_
          refine zz_iload_n (q := 80) (f := 2) (i := 2) C (by decide +kernel) rfl rfl rfl ?_
          refine zz_istore (q := 82) (i := 4) C (by decide +kernel) rfl (by decide) rfl ?_
          -- AT 82
          have he : i = or_s h a := by
            have := ((nI_leI (a := or_s h a) (b := i) (by omega) (by omega)).mp c9)
            omega
          subst he
          exact lp82 q w x hq htf hJ ⟨fun b j h1 _ => hX.1 b j h1, hX.2.2⟩ (or_s h a + 1) q (by omega) (by omega) (Nat.le_refl _)
        · have hi : i < or_s h a := Nat.lt_of_not_le (fun z => c9 (nI_le z (by omega)))
          refine zz_aload_n (q := 13) (f := 0) (i := 0) C (by decide +kernel) rfl rfl rfl ?_
          refine zz_getR (q := 16) C gf_O_11 (by decide +kernel) rfl (by first | rfl | assumption) ((htf 5 0 a (by decide)).trans hok.1.1) ?_
          refine zz_iload_n (q := 17) (f := 3) (i := 3) C (by decide +kernel) rfl rfl rfl ?_
          refine zz_aaload (q := 18) C 4 rfl (by decide) (by decide +kernel) rfl rfl hok.1.2.2.1 rfl (by have := hok.1.2.2.2.2.2.1; omega) (by decide) ((hX.2.1 i (Nat.le_refl _)).trans (hok.2 i hi)) ?_
          refine zz_astore (q := 20) (i := 4) C (by decide +kernel) rfl (by decide) rfl ?_
          refine zz_aload (q := 22) (i := 4) C (by decide +kernel) rfl rfl ?_
          refine zz_aload_n (q := 23) (f := 1) (i := 1) C (by decide +kernel) rfl rfl rfl ?_
          refine zz_callV (q := 26) C (m_S_isInTreeOf l) cv_O_86 (by decide +kernel) rfl rfl rfl (by first | rfl | assumption) (by decide) (by decide) (Nat.le_of_ble_eq_true rfl) ⟨_, _, rfl, or_sm_wf hsm hwf, ?_⟩
          rw [or_sm_lv hsm, or_sm_at hsm]
          refine zz_if_ne (off := 17) (tgt := 43) (q := 29) C (by decide +kernel) (by decide) rfl (fun c26 => ?_) (fun c26 => ?_)
          · refine zz_aload (q := 45) (i := 4) C (by decide +kernel) rfl rfl ?_
            refine zz_getR (q := 48) C gf_O_73 (by decide +kernel) rfl (by first | rfl | assumption) rfl ?_
            refine zz_ifnull (off := 18) (tgt := 66) (q := 51) C (by decide +kernel) (by decide) rfl (fun c48 => ?_) (fun a48 c48 => ?_)
            · refine zz_iinc (q := 69) (i := 3) (n := 1) C (by decide +kernel) rfl rfl (nI_succ _).symm (by decide) rfl ?_
              refine zz_goto (off := -65) (tgt := 4) C (by decide +kernel) (by decide) ?_
              -- AT 4
              first
                | exact ih (i + 1) (by omega) (by omega) _ (q + 1) w _ (by rw [or_kl_out (zz_b_f c26), List.length_append, hq]; rfl) htf (or_J_out hJ (zz_b_f c26)) (or_X_out hX (zz_b_f c26) hq (hok.2 i hi))
                | exact ih (i + 1) (by omega) (by omega) _ q w _ (by rw [or_kl_in (zz_b_t c26)]; exact hq) htf (or_J_none hJ hsy hi (zz_b_t c26) c48) (or_X_in hX (zz_b_t c26))
                | exact ih (i + 1) (by omega) (by omega) _ q (or_w2 w (or_B h a i) a48) _ (by rw [or_kl_in (zz_b_t c26)]; exact hq) (or_tf_2 htf _ _) (or_J_some hJ (zz_b_t c26) c48) (or_X_in hX (zz_b_t c26))
            · refine zz_aload (q := 53) (i := 4) C (by decide +kernel) rfl rfl ?_
              refine zz_getR (q := 56) C gf_O_73 (by decide +kernel) rfl (by first | rfl | assumption) c48 ?_
              refine zz_null (q := 57) C 2 (by decide +kernel) rfl ?_
              refine zz_putR (q := 60) C gf_O_73 (fun h => by cases h) (by decide +kernel) rfl (by first | rfl | assumption) ?_
              refine zz_aload (q := 62) (i := 4) C (by decide +kernel) rfl rfl ?_
              refine zz_null (q := 63) C 2 (by decide +kernel) rfl ?_
              refine zz_putR (q := 66) C gf_O_73 (fun h => by cases h) (by decide +kernel) rfl (by first | rfl | assumption) ?_
              refine zz_iinc (q := 69) (i := 3) (n := 1) C (by decide +kernel) rfl rfl (nI_succ _).symm (by decide) rfl ?_
              refine zz_goto (off := -65) (tgt := 4) C (by decide +kernel) (by decide) ?_
              -- AT 4
              first
                | exact ih (i + 1) (by omega) (by omega) _ (q + 1) w _ (by rw [or_kl_out (zz_b_f c26), List.length_append, hq]; rfl) htf (or_J_out hJ (zz_b_f c26)) (or_X_out hX (zz_b_f c26) hq (hok.2 i hi))
                | exact ih (i + 1) (by omega) (by omega) _ q w _ (by rw [or_kl_in (zz_b_t c26)]; exact hq) htf (or_J_none hJ hsy hi (zz_b_t c26) c48) (or_X_in hX (zz_b_t c26))
                | exact ih (i + 1) (by omega) (by omega) _ q (or_w2 w (or_B h a i) a48) _ (by rw [or_kl_in (zz_b_t c26)]; exact hq) (or_tf_2 htf _ _) (or_J_some hJ (zz_b_t c26) c48) (or_X_in hX (zz_b_t c26))
          · refine zz_aload_n (q := 30) (f := 0) (i := 0) C (by decide +kernel) rfl rfl rfl ?_
            refine zz_getR (q := 33) C gf_O_11 (by decide +kernel) rfl (by first | rfl | assumption) ((htf 5 0 a (by decide)).trans hok.1.1) ?_
            refine zz_iload_n (q := 34) (f := 2) (i := 2) C (by decide +kernel) rfl rfl rfl ?_
            refine zz_aload (q := 36) (i := 4) C (by decide +kernel) rfl rfl ?_
            refine zz_aastore (q := 37) C (ci := 2) 4 rfl rfl (by decide +kernel) rfl rfl hok.1.2.2.1 rfl (by omega) (by decide) ?_
            refine zz_iinc (q := 40) (i := 2) (n := 1) C (by decide +kernel) rfl rfl (nI_succ _).symm (by decide) rfl ?_
            refine zz_goto (off := 26) (tgt := 66) C (by decide +kernel) (by decide) ?_
            refine zz_iinc (q := 69) (i := 3) (n := 1) C (by decide +kernel) rfl rfl (nI_succ _).symm (by decide) rfl ?_
            refine zz_goto (off := -65) (tgt := 4) C (by decide +kernel) (by decide) ?_
            -- AT 4
            first
              | exact ih (i + 1) (by omega) (by omega) _ (q + 1) w _ (by rw [or_kl_out (zz_b_f c26), List.length_append, hq]; rfl) htf (or_J_out hJ (zz_b_f c26)) (or_X_out hX (zz_b_f c26) hq (hok.2 i hi))
              | exact ih (i + 1) (by omega) (by omega) _ q w _ (by rw [or_kl_in (zz_b_t c26)]; exact hq) htf (or_J_none hJ hsy hi (zz_b_t c26) c48) (or_X_in hX (zz_b_t c26))
              | exact ih (i + 1) (by omega) (by omega) _ q (or_w2 w (or_B h a i) a48) _ (by rw [or_kl_in (zz_b_t c26)]; exact hq) (or_tf_2 htf _ _) (or_J_some hJ (zz_b_t c26) c48) (or_X_in hX (zz_b_t c26))
    refine zz_iconst (q := 1) (n := 0) (x := 0) C (by decide +kernel) rfl (by decide +kernel) ?_
    refine zz_istore_n (q := 2) (f := 2) (i := 2) C (by decide +kernel) rfl rfl (by decide) rfl ?_
    refine zz_iconst (q := 3) (n := 0) (x := 0) C (by decide +kernel) rfl (by decide +kernel) ?_
    refine zz_istore_n (q := 4) (f := 3) (i := 3) C (by decide +kernel) rfl rfl (by decide) rfl ?_
    -- AT 4
    exact lp4 (or_s h a + 1) 0 (by omega) (by omega) none 0 (zz_fR h) (zz_aR h) rfl (fun _ _ _ _ => rfl) (fun b => ⟨fun ⟨j, hj, _⟩ => absurd hj (by omega), fun _ => rfl⟩) ⟨fun _ _ _ => rfl, fun _ _ => rfl, fun j hj => absurd hj (Nat.not_lt_zero _)⟩

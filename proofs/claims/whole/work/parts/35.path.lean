/-! Path -/
theorem zz_m1 (n : Nat) : nI (n + 1) + Int32.ofInt (-1) = nI n := by
  have e : Int32.ofInt (-1) = -1 := by decide +kernel
  rw [e]
  exact pk_m1 n
def pa_a (h : zz_H) (a : Nat) : Nat := (zz_fR h 4 0 a).getD 0
def pa_l (h : zz_H) (a i : Nat) : Nat := (zz_aR h (pa_a h a) i).getD 0
def pa_ok (h : zz_H) (a : Nat) : Prop := zz_fR h 4 0 a = some (pa_a h a) ∧ zz_tg h (pa_a h a) = some (103, 4) ∧ ∀ i, i < 4 → zz_aR h (pa_a h a) i = some (pa_l h a i) ∧ pl_ok h (pa_l h a i)
def pa_fg (h : zz_H) (f : Nat → Nat) : Nat → zz_H
  | 0 => h
  | n + 1 => zz_pI (zz_pR (pa_fg h f n) 3 0 (f n) none) 3 1 (f n) 0
theorem pa_fg_same (h : zz_H) (f : Nat → Nat) : ∀ n, zz_tg (pa_fg h f n) = zz_tg h ∧ zz_aR (pa_fg h f n) = zz_aR h ∧ (∀ k, zz_fR (pa_fg h f n) 4 k = zz_fR h 4 k)
  | 0 => ⟨rfl, rfl, fun _ => rfl⟩
  | n + 1 => by
    obtain ⟨h1, h2, h3⟩ := pa_fg_same h f n
    refine ⟨h1, h2, fun k => ?_⟩
    funext b
    show zz_fR (zz_pI (zz_pR (pa_fg h f n) 3 0 (f n) none) 3 1 (f n) 0) 4 k b = _
    rw [zz_fR_pI, zz_fR_pR, if_neg (fun z => by omega), h3]
/-- the lowest level that is stated, among the first n -/
noncomputable def pa_low (h : zz_H) (a : Nat) : Nat → Nat
  | 0 => 0
  | n + 1 => @ite _ (zz_fR h 3 0 (pa_l h a n) ≠ none) (Classical.propDecidable _) (n + 1) (pa_low h a n)
theorem pa_low_T {h : zz_H} {a n : Nat} (e : zz_fR h 3 0 (pa_l h a n) ≠ none) : pa_low h a (n + 1) = n + 1 := by
  unfold pa_low
  exact if_pos e
theorem pa_low_F {h : zz_H} {a n : Nat} (e : ¬ zz_fR h 3 0 (pa_l h a n) ≠ none) : pa_low h a (n + 1) = pa_low h a n := by
  show @ite _ _ (Classical.propDecidable _) (n + 1) (pa_low h a n) = _
  exact if_neg e
theorem pa_low_le (h : zz_H) (a : Nat) : ∀ n, pa_low h a n ≤ n
  | 0 => Nat.le_refl _
  | n + 1 => by
    by_cases e : zz_fR h 3 0 (pa_l h a n) ≠ none
    · rw [pa_low_T e]; omega
    · rw [pa_low_F e]
      have := pa_low_le h a n
      omega
def pa_dn (h : zz_H) (a lv s : Nat) : Prop := ∀ i, i < lv → zz_fR h 3 0 (pa_l h a i) ≠ none → pl_met h (pa_l h a i) (sg_at h (nI (i + 1)) s)
def pa_met (h : zz_H) (a s : Nat) : Prop := pa_low h a 4 = 0 ∨ (sg_lv h s = nI (pa_low h a 4) ∧ pa_dn h a (pa_low h a 4) s)
theorem sg_up_tag {h : zz_H} (hty : zz_tyH h) (lv : Int32) : ∀ n a, (∃ na, zz_tg h a = some (2, na)) → ∃ nb, zz_tg h (sg_up h lv n a) = some (2, nb)
  | 0, _, ha => ha
  | n + 1, a, ha => by
    by_cases hl : sg_lv h a ≤ lv
    · rw [sg_up_le hl]; exact ha
    · cases hb : zz_fR h 2 2 a with
      | none => rw [sg_up_no hb]; exact ha
      | some b =>
        rw [sg_up_go hl hb]
        obtain ⟨na, hta⟩ := ha
        exact sg_up_tag hty lv n b (hty.1 a 2 na 2 2 hta (by decide) rfl b hb)
theorem sg_at_tag {h : zz_H} (hty : zz_tyH h) {lv : Int32} {a t : Nat} (ha : ∃ na, zz_tg h a = some (2, na)) (ht : sg_at h lv a = some t) : ∃ nt, zz_tg h t = some (2, nt) := by
  unfold sg_at at ht
  split at ht
  · cases ht
    exact sg_up_tag hty lv 3 a ha
  · cases ht
def T_P_forget : zz_Tr := fun as h post => ∃ a, as = [zz_r 4 (some a)] ∧ pa_ok h a ∧ post none (pa_fg h (pa_l h a) 4)
set_option maxRecDepth 100000 in
set_option maxHeartbeats 4000000 in
theorem m_P_forget (l : Launch) : zz_Met l y_P_forget w_P_forget { frames := 2, cells := 0, slots := 0, locals := 32 } T_P_forget := by
  refine zz_ofZ (by decide) (fun as h post hT => ?_) ?_
  · obtain ⟨a, rfl, hok, hp⟩ := hT
    exact ⟨by simp [zz_cat], by simp⟩
  · intro D DA h as post hT p e s m args below meth c Q C hr hlk hnm hQ
    obtain ⟨a, rfl, hok, hp⟩ := hT
    have lp2 : ∀ n i, n + i = 4 → zz_Z p l e { frames := 2, cells := 0, slots := 0, locals := 32 } s m args below meth c Q D DA (zz_A h s.heap.size) h 2 2 [some (zz_r 4 (some a)), some (zz_i (nI i))] [] (pa_fg h (pa_l h a) i) 0 0 := by
      intro n
      induction n with
      | zero =>
        intro i hi
        have hi : i = 4 := by omega
        subst hi
        refine zz_iload_n (q := 3) (f := 1) (i := 1) C (by decide +kernel) rfl rfl rfl ?_
        refine zz_iconst (q := 4) (n := 4) (x := 4) C (by decide +kernel) rfl (by decide +kernel) ?_
        refine zz_icmp_ge (off := 18) (tgt := 22) (q := 7) C (by decide +kernel) (by decide) rfl (fun c4 => ?_) (fun c4 => absurd (by decide) c4)
        exact zz_vret C hr hlk (by decide +kernel) hQ (by decide) (by decide) hp
      | succ n ih =>
        intro i hi
        obtain ⟨f1, f2, f3⟩ := pa_fg_same h (pa_l h a) i
        refine zz_iload_n (q := 3) (f := 1) (i := 1) C (by decide +kernel) rfl rfl rfl ?_
        refine zz_iconst (q := 4) (n := 4) (x := 4) C (by decide +kernel) rfl (by decide +kernel) ?_
        refine zz_icmp_ge (off := 18) (tgt := 22) (q := 7) C (by decide +kernel) (by decide) rfl (fun c4 => ?_) (fun c4 => ?_)
        · refine zz_vret C hr hlk (by decide +kernel) hQ (by decide) (by decide) ?_
          exact absurd c4 (nI_ge (b := 4) (by omega) (by decide))
        · refine zz_aload_n (q := 8) (f := 0) (i := 0) C (by decide +kernel) rfl rfl rfl ?_
          refine zz_getR (q := 11) C gf_P_11 (by decide +kernel) rfl (by first | rfl | assumption) ((congrFun (f3 0) a).trans hok.1) ?_
          refine zz_iload_n (q := 12) (f := 1) (i := 1) C (by decide +kernel) rfl rfl rfl ?_
          refine zz_aaload (q := 13) C 5 rfl (by decide) (by decide +kernel) rfl rfl (by rw [f1]; exact hok.2.1) rfl (by omega) (by decide) ((congrFun (congrFun f2 _) i).trans (hok.2.2 i (by omega)).1) ?_
          refine zz_callV (q := 16) C (m_L_forget l) cv_P_18 (by decide +kernel) rfl rfl rfl (by first | rfl | assumption) (by decide) (by decide) (Nat.le_of_ble_eq_true rfl) ⟨_, rfl, ?_⟩
          refine zz_iinc (q := 19) (i := 1) (n := 1) C (by decide +kernel) rfl rfl (nI_succ _).symm (by decide) rfl ?_
          refine zz_goto (off := -17) (tgt := 2) C (by decide +kernel) (by decide) ?_
          -- AT 2
          exact ih (i + 1) (by omega)
    refine zz_iconst (q := 1) (n := 0) (x := 0) C (by decide +kernel) rfl (by decide +kernel) ?_
    refine zz_istore_n (q := 2) (f := 1) (i := 1) C (by decide +kernel) rfl rfl (by decide) rfl ?_
    -- AT 2
    exact lp2 4 0 rfl

def T_P_state : zz_Tr := fun as h post => ∃ a k lv, as = [zz_r 4 (some a), zz_r 1 (some k)] ∧ pa_ok h a ∧ lv < 4 ∧ zz_fI h 1 2 k = nI (lv + 1) ∧ ((zz_fR h 3 0 (pa_l h a lv) ≠ none ∧ zz_fR h 3 0 (pa_l h a lv) ≠ some k) → post (some (zz_i 0)) h) ∧ (¬ (zz_fR h 3 0 (pa_l h a lv) ≠ none ∧ zz_fR h 3 0 (pa_l h a lv) ≠ some k) → post (some (zz_i 1)) (zz_pR h 3 0 (pa_l h a lv) (some k)))
set_option maxRecDepth 100000 in
set_option maxHeartbeats 4000000 in
theorem m_P_state (l : Launch) : zz_Met l y_P_state w_P_state { frames := 2, cells := 0, slots := 0, locals := 33 } T_P_state := by
  refine zz_ofZ (by decide) (fun as h post hT => ?_) ?_
  · obtain ⟨a, k, lv, rfl, hok, hl4, hlv, h1, h2⟩ := hT
    exact ⟨by simp [zz_cat], by simp⟩
  · intro D DA h as post hT p e s m args below meth c Q C hr hlk hnm hQ
    obtain ⟨a, k, lv, rfl, hok, hl4, hlv, h1, h2⟩ := hT
    refine zz_aload_n (q := 1) (f := 0) (i := 0) C (by decide +kernel) rfl rfl rfl ?_
    refine zz_getR (q := 4) C gf_P_11 (by decide +kernel) rfl (by first | rfl | assumption) hok.1 ?_
    refine zz_aload_n (q := 5) (f := 1) (i := 1) C (by decide +kernel) rfl rfl rfl ?_
    refine zz_getI (q := 8) C gf_P_21 (by decide +kernel) rfl (by first | rfl | assumption) hlv ?_
    refine zz_iconst (q := 9) (n := 1) (x := 1) C (by decide +kernel) rfl (by decide +kernel) ?_
    refine zz_isub (q := 10) C (by decide +kernel) rfl (nI_pred lv) ?_
    refine zz_aaload (q := 11) C 5 rfl (by decide) (by decide +kernel) rfl rfl hok.2.1 rfl hl4 (by decide) (hok.2.2 lv hl4).1 ?_
    refine zz_aload_n (q := 12) (f := 1) (i := 1) C (by decide +kernel) rfl rfl rfl ?_
    refine zz_callV (q := 15) C (m_L_state l) cv_P_27 (by decide +kernel) rfl rfl rfl (by first | rfl | assumption) (by decide) (by decide) (Nat.le_of_ble_eq_true rfl) ⟨_, _, rfl, fun z => ?_, fun z => ?_⟩
    · refine zz_zret C hr hlk (by decide +kernel) (by decide) hQ (by decide) (by decide) ?_
      exact h1 z
    · refine zz_zret C hr hlk (by decide +kernel) (by decide) hQ (by decide) (by decide) ?_
      exact h2 z

def T_P_addCondition : zz_Tr := fun as h post => ∃ a k w q n lv, as = [zz_r 4 (some a), zz_r 1 (some k), zz_i w, zz_i q, zz_i n] ∧ pa_ok h a ∧ lv < 4 ∧ zz_fI h 1 2 k = nI (lv + 1) ∧ ((3 ≤ pl_c h (pa_l h a lv) ∨ (zz_fR h 3 0 (pa_l h a lv) ≠ none ∧ zz_fR h 3 0 (pa_l h a lv) ≠ some k)) → post (some (zz_i 0)) h) ∧ (¬ (3 ≤ pl_c h (pa_l h a lv) ∨ (zz_fR h 3 0 (pa_l h a lv) ≠ none ∧ zz_fR h 3 0 (pa_l h a lv) ≠ some k)) → post (some (zz_i 1)) (zz_pI (zz_sI (zz_sI (zz_sI (zz_pR h 3 0 (pa_l h a lv) (some k)) (pl_w h (pa_l h a lv)) (pl_c h (pa_l h a lv)) w) (pl_o h (pa_l h a lv)) (pl_c h (pa_l h a lv)) q) (pl_n h (pa_l h a lv)) (pl_c h (pa_l h a lv)) n) 3 1 (pa_l h a lv) (nI (pl_c h (pa_l h a lv) + 1))))
set_option maxRecDepth 100000 in
set_option maxHeartbeats 4000000 in
theorem m_P_addCondition (l : Launch) : zz_Met l y_P_addCondition w_P_addCondition { frames := 3, cells := 0, slots := 0, locals := 57 } T_P_addCondition := by
  refine zz_ofZ (by decide) (fun as h post hT => ?_) ?_
  · obtain ⟨a, k, w, q, n, lv, rfl, hok, hl4, hlv, h1, h2⟩ := hT
    exact ⟨by simp [zz_cat], by simp⟩
  · intro D DA h as post hT p e s m args below meth c Q C hr hlk hnm hQ
    obtain ⟨a, k, w, q, n, lv, rfl, hok, hl4, hlv, h1, h2⟩ := hT
    refine zz_aload_n (q := 1) (f := 0) (i := 0) C (by decide +kernel) rfl rfl rfl ?_
    refine zz_getR (q := 4) C gf_P_11 (by decide +kernel) rfl (by first | rfl | assumption) hok.1 ?_
    refine zz_aload_n (q := 5) (f := 1) (i := 1) C (by decide +kernel) rfl rfl rfl ?_
    refine zz_getI (q := 8) C gf_P_21 (by decide +kernel) rfl (by first | rfl | assumption) hlv ?_
    refine zz_iconst (q := 9) (n := 1) (x := 1) C (by decide +kernel) rfl (by decide +kernel) ?_
    refine zz_isub (q := 10) C (by decide +kernel) rfl (nI_pred lv) ?_
    refine zz_aaload (q := 11) C 5 rfl (by decide) (by decide +kernel) rfl rfl hok.2.1 rfl hl4 (by decide) (hok.2.2 lv hl4).1 ?_
    refine zz_aload_n (q := 12) (f := 1) (i := 1) C (by decide +kernel) rfl rfl rfl ?_
    refine zz_iload_n (q := 13) (f := 2) (i := 2) C (by decide +kernel) rfl rfl rfl ?_
    refine zz_iload_n (q := 14) (f := 3) (i := 3) C (by decide +kernel) rfl rfl rfl ?_
    refine zz_iload (q := 16) (i := 4) C (by decide +kernel) rfl rfl ?_
    refine zz_callV (q := 19) C (m_L_addCondition l) cv_P_31 (by decide +kernel) rfl rfl rfl (by first | rfl | assumption) (by decide) (by decide) (Nat.le_of_ble_eq_true rfl) ⟨_, _, _, _, _, rfl, (hok.2.2 lv hl4).2, fun z => ?_, fun z => ?_⟩
    · refine zz_zret C hr hlk (by decide +kernel) (by decide) hQ (by decide) (by decide) ?_
      exact h1 z
    · refine zz_zret C hr hlk (by decide +kernel) (by decide) hQ (by decide) (by decide) ?_
      exact h2 z

def T_P_lowestStated : zz_Tr := fun as h post => ∃ a, as = [zz_r 4 (some a)] ∧ pa_ok h a ∧ post (some (zz_i (nI (pa_low h a 4)))) h
set_option maxRecDepth 100000 in
set_option maxHeartbeats 4000000 in
theorem m_P_lowestStated (l : Launch) : zz_Met l y_P_lowestStated w_P_lowestStated { frames := 2, cells := 0, slots := 0, locals := 32 } T_P_lowestStated := by
  refine zz_ofZ (by decide) (fun as h post hT => ?_) ?_
  · obtain ⟨a, rfl, hok, hp⟩ := hT
    exact ⟨by simp [zz_cat], by simp⟩
  · intro D DA h as post hT p e s m args below meth c Q C hr hlk hnm hQ
    obtain ⟨a, rfl, hok, hp⟩ := hT
    have lp2 : ∀ n, n ≤ 4 → post (some (zz_i (nI (pa_low h a n)))) h → zz_Z p l e { frames := 2, cells := 0, slots := 0, locals := 32 } s m args below meth c Q D DA (zz_A h s.heap.size) h 2 2 [some (zz_r 4 (some a)), some (zz_i (nI n))] [] h 0 0 := by
      intro n
      induction n with
      | zero =>
        intro _ hp
        refine zz_iload_n (q := 3) (f := 1) (i := 1) C (by decide +kernel) rfl rfl rfl ?_
        refine zz_if_le (off := 25) (tgt := 28) (q := 6) C (by decide +kernel) (by decide) rfl (fun c3 => ?_) (fun c3 => absurd (by decide) c3)
        refine zz_iconst (q := 29) (n := 0) (x := 0) C (by decide +kernel) rfl (by decide +kernel) ?_
        exact zz_iret C hr hlk (by decide +kernel) hQ (by decide) (by decide) hp
      | succ n ih =>
        intro hn hp
        refine zz_iload_n (q := 3) (f := 1) (i := 1) C (by decide +kernel) rfl rfl rfl ?_
        refine zz_if_le (off := 25) (tgt := 28) (q := 6) C (by decide +kernel) (by decide) rfl (fun c3 => ?_) (fun c3 => ?_)
        · refine zz_iconst (q := 29) (n := 0) (x := 0) C (by decide +kernel) rfl (by decide +kernel) ?_
          refine zz_iret C hr hlk (by decide +kernel) hQ (by decide) (by decide) ?_
          exact absurd c3 (nI_nle (by omega) (by omega))
        · refine zz_aload_n (q := 7) (f := 0) (i := 0) C (by decide +kernel) rfl rfl rfl ?_
          refine zz_getR (q := 10) C gf_P_11 (by decide +kernel) rfl (by first | rfl | assumption) hok.1 ?_
          refine zz_iload_n (q := 11) (f := 1) (i := 1) C (by decide +kernel) rfl rfl rfl ?_
          refine zz_iconst (q := 12) (n := 1) (x := 1) C (by decide +kernel) rfl (by decide +kernel) ?_
          refine zz_isub (q := 13) C (by decide +kernel) rfl (nI_pred n) ?_
          refine zz_aaload (q := 14) C 5 rfl (by decide) (by decide +kernel) rfl rfl hok.2.1 rfl (by omega) (by decide) (hok.2.2 n (by omega)).1 ?_
          refine zz_callV (q := 17) C (m_L_isStated l) cv_P_49 (by decide +kernel) rfl rfl rfl (by first | rfl | assumption) (by decide) (by decide) (Nat.le_of_ble_eq_true rfl) ⟨_, rfl, ?_⟩
          refine zz_if_eq (off := 5) (tgt := 22) (q := 20) C (by decide +kernel) (by decide) rfl (fun c17 => ?_) (fun c17 => ?_)
          · refine zz_iinc (q := 25) (i := 1) (n := -1) C (by decide +kernel) rfl rfl (zz_m1 n) (by decide) rfl ?_
            refine zz_goto (off := -23) (tgt := 2) C (by decide +kernel) (by decide) ?_
            -- AT 2
            rw [pa_low_F (zz_b_f c17)] at hp
            exact ih (by omega) hp
          · refine zz_iload_n (q := 21) (f := 1) (i := 1) C (by decide +kernel) rfl rfl rfl ?_
            refine zz_iret C hr hlk (by decide +kernel) hQ (by decide) (by decide) ?_
            rw [pa_low_T (zz_b_t c17)] at hp
            exact hp
    refine zz_iconst (q := 1) (n := 4) (x := 4) C (by decide +kernel) rfl (by decide +kernel) ?_
    refine zz_istore_n (q := 2) (f := 1) (i := 1) C (by decide +kernel) rfl rfl (by decide) rfl ?_
    -- AT 2
    exact lp2 4 (by omega) hp

def T_P_isMetDownTo : zz_Tr := fun as h post => ∃ a lv s, as = [zz_r 4 (some a), zz_i (nI lv), zz_r 2 (some s)] ∧ lv ≤ 4 ∧ pa_ok h a ∧ sg_wf h ∧ post (some (zz_i (zz_b (pa_dn h a lv s)))) h
set_option maxRecDepth 100000 in
set_option maxHeartbeats 4000000 in
theorem m_P_isMetDownTo (l : Launch) : zz_Met l y_P_isMetDownTo w_P_isMetDownTo { frames := 3, cells := 0, slots := 0, locals := 56 } T_P_isMetDownTo := by
  refine zz_ofZ (by decide) (fun as h post hT => ?_) ?_
  · obtain ⟨a, lv, s9, rfl, hlv, hok, hwf, hp⟩ := hT
    exact ⟨by simp [zz_cat], by simp⟩
  · intro D DA h as post hT p e s m args below meth c Q C hr hlk hnm hQ
    obtain ⟨a, lv, s9, rfl, hlv, hok, hwf, hp⟩ := hT
    refine zz_know (fun hty _ hTL _ => ?_)
    have hts : ∃ ns, zz_tg h s9 = some (2, ns) := hTL 2 _ rfl s9 rfl
    have lp2 : ∀ n i, n + i = lv → ∀ v9, (∀ j, j < i → zz_fR h 3 0 (pa_l h a j) ≠ none → pl_met h (pa_l h a j) (sg_at h (nI (j + 1)) s9)) → zz_Z p l e { frames := 3, cells := 0, slots := 0, locals := 56 } s m args below meth c Q D DA (zz_A h s.heap.size) h 5 2 [some (zz_r 4 (some a)), some (zz_i (nI lv)), some (zz_r 2 (some s9)), some (zz_i (nI (i + 1))), v9] [] h 0 0 := by
      intro n
      induction n with
      | zero =>
        intro i hi v9 hall
        have hi : i = lv := by omega
        subst hi
        refine zz_iload_n (q := 3) (f := 3) (i := 3) C (by decide +kernel) rfl rfl rfl ?_
        refine zz_iload_n (q := 4) (f := 1) (i := 1) C (by decide +kernel) rfl rfl rfl ?_
        refine zz_icmp_gt (off := 47) (tgt := 51) (q := 7) C (by decide +kernel) (by decide) rfl (fun c4 => ?_) (fun c4 => absurd (nI_lt (by omega) (by omega)) c4)
        refine zz_iconst (q := 52) (n := 1) (x := 1) C (by decide +kernel) rfl (by decide +kernel) ?_
        refine zz_zret C hr hlk (by decide +kernel) (by decide) hQ (by decide) (by decide) ?_
        exact zz_b1 (P := fun x => post (some (zz_i x)) h) hp (fun j hj hn => hall j hj hn)
      | succ n ih =>
        intro i hi v9 hall
        refine zz_iload_n (q := 3) (f := 3) (i := 3) C (by decide +kernel) rfl rfl rfl ?_
        refine zz_iload_n (q := 4) (f := 1) (i := 1) C (by decide +kernel) rfl rfl rfl ?_
        refine zz_icmp_gt (off := 47) (tgt := 51) (q := 7) C (by decide +kernel) (by decide) rfl (fun c4 => ?_) (fun c4 => ?_)
        · refine zz_iconst (q := 52) (n := 1) (x := 1) C (by decide +kernel) rfl (by decide +kernel) ?_
          refine zz_zret C hr hlk (by decide +kernel) (by decide) hQ (by decide) (by decide) ?_
          first | exact absurd c9 (nI_nlt (a := 4) (b := i + 1) (by omega) (by decide)) | exact absurd c4 (nI_nlt (by omega) (by omega))
        · refine zz_iload_n (q := 8) (f := 3) (i := 3) C (by decide +kernel) rfl rfl rfl ?_
          refine zz_iconst (q := 9) (n := 4) (x := 4) C (by decide +kernel) rfl (by decide +kernel) ?_
          refine zz_icmp_gt (off := 42) (tgt := 51) (q := 12) C (by decide +kernel) (by decide) rfl (fun c9 => ?_) (fun c9 => ?_)
          · refine zz_iconst (q := 52) (n := 1) (x := 1) C (by decide +kernel) rfl (by decide +kernel) ?_
            refine zz_zret C hr hlk (by decide +kernel) (by decide) hQ (by decide) (by decide) ?_
            first | exact absurd c9 (nI_nlt (a := 4) (b := i + 1) (by omega) (by decide)) | exact absurd c4 (nI_nlt (by omega) (by omega))
          · refine zz_aload_n (q := 13) (f := 0) (i := 0) C (by decide +kernel) rfl rfl rfl ?_
            refine zz_getR (q := 16) C gf_P_11 (by decide +kernel) rfl (by first | rfl | assumption) hok.1 ?_
            refine zz_iload_n (q := 17) (f := 3) (i := 3) C (by decide +kernel) rfl rfl rfl ?_
            refine zz_iconst (q := 18) (n := 1) (x := 1) C (by decide +kernel) rfl (by decide +kernel) ?_
            refine zz_isub (q := 19) C (by decide +kernel) rfl (nI_pred i) ?_
            refine zz_aaload (q := 20) C 5 rfl (by decide) (by decide +kernel) rfl rfl hok.2.1 rfl (by omega) (by decide) (hok.2.2 i (by omega)).1 ?_
            refine zz_astore (q := 22) (i := 4) C (by decide +kernel) rfl (by decide) rfl ?_
            refine zz_aload (q := 24) (i := 4) C (by decide +kernel) rfl rfl ?_
            refine zz_callV (q := 27) C (m_L_isStated l) cv_P_49 (by decide +kernel) rfl rfl rfl (by first | rfl | assumption) (by decide) (by decide) (Nat.le_of_ble_eq_true rfl) ⟨_, rfl, ?_⟩
            refine zz_if_eq (off := 18) (tgt := 45) (q := 30) C (by decide +kernel) (by decide) rfl (fun c27 => ?_) (fun c27 => ?_)
            · refine zz_iinc (q := 48) (i := 3) (n := 1) C (by decide +kernel) rfl rfl (nI_succ _).symm (by decide) rfl ?_
              refine zz_goto (off := -46) (tgt := 2) C (by decide +kernel) (by decide) ?_
              -- AT 2
              refine ih (i + 1) (by omega) _ (fun j hj hn => ?_)
              rcases Nat.lt_succ_iff_lt_or_eq.mp hj with hj | rfl
              · exact hall j hj hn
              · first | exact zz_b_t c40 | exact absurd hn (zz_b_f c27)
            · refine zz_aload (q := 32) (i := 4) C (by decide +kernel) rfl rfl ?_
              refine zz_aload_n (q := 33) (f := 2) (i := 2) C (by decide +kernel) rfl rfl rfl ?_
              refine zz_iload_n (q := 34) (f := 3) (i := 3) C (by decide +kernel) rfl rfl rfl ?_
              refine zz_callV (q := 37) C (m_S_atLevel l) cv_P_53 (by decide +kernel) rfl rfl rfl (by first | rfl | assumption) (by decide) (by decide) (Nat.le_of_ble_eq_true rfl) ⟨_, _, rfl, hwf, ?_⟩
              refine zz_callV (q := 40) C (m_L_isMetBy l) cv_P_57 (by decide +kernel) rfl rfl rfl (by first | rfl | assumption) (by decide) (by decide) (Nat.le_of_ble_eq_true rfl) ⟨_, _, rfl, (hok.2.2 i (by omega)).2, fun t9 e9 => (by obtain ⟨nt, htt⟩ := sg_at_tag hty hts e9; exact hwf t9 nt htt), ?_⟩
              refine zz_if_ne (off := 5) (tgt := 45) (q := 43) C (by decide +kernel) (by decide) rfl (fun c40 => ?_) (fun c40 => ?_)
              · refine zz_iinc (q := 48) (i := 3) (n := 1) C (by decide +kernel) rfl rfl (nI_succ _).symm (by decide) rfl ?_
                refine zz_goto (off := -46) (tgt := 2) C (by decide +kernel) (by decide) ?_
                -- AT 2
                refine ih (i + 1) (by omega) _ (fun j hj hn => ?_)
                rcases Nat.lt_succ_iff_lt_or_eq.mp hj with hj | rfl
                · exact hall j hj hn
                · first | exact zz_b_t c40 | exact absurd hn (zz_b_f c27)
              · refine zz_iconst (q := 44) (n := 0) (x := 0) C (by decide +kernel) rfl (by decide +kernel) ?_
                refine zz_zret C hr hlk (by decide +kernel) (by decide) hQ (by decide) (by decide) ?_
                exact zz_b0 (P := fun x => post (some (zz_i x)) h) hp (fun z => zz_b_f c40 (z i (by omega) (zz_b_t c27)))
    refine zz_iconst (q := 1) (n := 1) (x := 1) C (by decide +kernel) rfl (by decide +kernel) ?_
    refine zz_istore_n (q := 2) (f := 3) (i := 3) C (by decide +kernel) rfl rfl (by decide) rfl ?_
    -- AT 2
    exact lp2 lv 0 (by omega) none (fun j hj => absurd hj (by omega))

def T_P_isMetBy : zz_Tr := fun as h post => ∃ a s, as = [zz_r 4 (some a), zz_r 2 (some s)] ∧ pa_ok h a ∧ sg_wf h ∧ post (some (zz_i (zz_b (pa_met h a s)))) h
set_option maxRecDepth 100000 in
set_option maxHeartbeats 4000000 in
theorem m_P_isMetBy (l : Launch) : zz_Met l y_P_isMetBy w_P_isMetBy { frames := 4, cells := 0, slots := 0, locals := 80 } T_P_isMetBy := by
  refine zz_ofZ (by decide) (fun as h post hT => ?_) ?_
  · obtain ⟨a, s9, rfl, hok, hwf, hp⟩ := hT
    exact ⟨by simp [zz_cat], by simp⟩
  · intro D DA h as post hT p e s m args below meth c Q C hr hlk hnm hQ
    obtain ⟨a, s9, rfl, hok, hwf, hp⟩ := hT
    refine zz_know (fun hty _ hTL _ => ?_)
    obtain ⟨ns, hts⟩ := hTL 1 _ rfl s9 rfl
    have hos := hwf s9 ns hts
    refine zz_aload_n (q := 1) (f := 0) (i := 0) C (by decide +kernel) rfl rfl rfl ?_
    refine zz_callV (q := 4) C (m_P_lowestStated l) cv_P_35 (by decide +kernel) rfl rfl rfl (by first | rfl | assumption) (by decide) (by decide) (Nat.le_of_ble_eq_true rfl) ⟨_, rfl, hok, ?_⟩
    refine zz_istore_n (q := 5) (f := 2) (i := 2) C (by decide +kernel) rfl rfl (by decide) rfl ?_
    refine zz_iload_n (q := 6) (f := 2) (i := 2) C (by decide +kernel) rfl rfl rfl ?_
    refine zz_if_eq (off := 23) (tgt := 29) (q := 9) C (by decide +kernel) (by decide) rfl (fun c6 => ?_) (fun c6 => ?_)
    · refine zz_iconst (q := 30) (n := 1) (x := 1) C (by decide +kernel) rfl (by decide +kernel) ?_
      refine zz_goto (off := 4) (tgt := 34) C (by decide +kernel) (by decide) ?_
      refine zz_zret C hr hlk (by decide +kernel) (by decide) hQ (by decide) (by decide) ?_
      first | exact zz_b1 (P := fun x => post (some (zz_i x)) h) hp (Or.inr ⟨c17, zz_b_t c26⟩) | exact zz_b0 (P := fun x => post (some (zz_i x)) h) hp (fun z => z.elim n6 (fun w => zz_b_f c26 w.2)) | exact zz_b0 (P := fun x => post (some (zz_i x)) h) hp (fun z => z.elim n6 (fun w => c17 w.1)) | exact zz_b1 (P := fun x => post (some (zz_i x)) h) hp (Or.inl ((nI_eq (by have := pa_low_le h a 4; omega) (by decide)).mp c6))
    · have n6 : ¬ pa_low h a 4 = 0 := fun z => c6 (by rw [z]; rfl)
      refine zz_aload_n (q := 10) (f := 1) (i := 1) C (by decide +kernel) rfl rfl rfl ?_
      refine zz_getR (q := 13) C gf_P_39 (by decide +kernel) rfl (by first | rfl | assumption) hos.1 ?_
      refine zz_getI (q := 16) C gf_P_21 (by decide +kernel) rfl (by first | rfl | assumption) rfl ?_
      refine zz_iload_n (q := 17) (f := 2) (i := 2) C (by decide +kernel) rfl rfl rfl ?_
      refine zz_icmp_ne (off := 16) (tgt := 33) (q := 20) C (by decide +kernel) (by decide) rfl (fun c17 => ?_) (fun c17 => ?_)
      · refine zz_iconst (q := 34) (n := 0) (x := 0) C (by decide +kernel) rfl (by decide +kernel) ?_
        refine zz_zret C hr hlk (by decide +kernel) (by decide) hQ (by decide) (by decide) ?_
        first | exact zz_b1 (P := fun x => post (some (zz_i x)) h) hp (Or.inr ⟨c17, zz_b_t c26⟩) | exact zz_b0 (P := fun x => post (some (zz_i x)) h) hp (fun z => z.elim n6 (fun w => zz_b_f c26 w.2)) | exact zz_b0 (P := fun x => post (some (zz_i x)) h) hp (fun z => z.elim n6 (fun w => c17 w.1)) | exact zz_b1 (P := fun x => post (some (zz_i x)) h) hp (Or.inl ((nI_eq (by have := pa_low_le h a 4; omega) (by decide)).mp c6))
      · refine zz_aload_n (q := 21) (f := 0) (i := 0) C (by decide +kernel) rfl rfl rfl ?_
        refine zz_iload_n (q := 22) (f := 2) (i := 2) C (by decide +kernel) rfl rfl rfl ?_
        refine zz_aload_n (q := 23) (f := 1) (i := 1) C (by decide +kernel) rfl rfl rfl ?_
        refine zz_callV (q := 26) C (m_P_isMetDownTo l) cv_P_45 (by decide +kernel) rfl rfl rfl (by first | rfl | assumption) (by decide) (by decide) (Nat.le_of_ble_eq_true rfl) ⟨_, _, _, rfl, pa_low_le h a 4, hok, hwf, ?_⟩
        refine zz_if_eq (off := 7) (tgt := 33) (q := 29) C (by decide +kernel) (by decide) rfl (fun c26 => ?_) (fun c26 => ?_)
        · refine zz_iconst (q := 34) (n := 0) (x := 0) C (by decide +kernel) rfl (by decide +kernel) ?_
          refine zz_zret C hr hlk (by decide +kernel) (by decide) hQ (by decide) (by decide) ?_
          first | exact zz_b1 (P := fun x => post (some (zz_i x)) h) hp (Or.inr ⟨c17, zz_b_t c26⟩) | exact zz_b0 (P := fun x => post (some (zz_i x)) h) hp (fun z => z.elim n6 (fun w => zz_b_f c26 w.2)) | exact zz_b0 (P := fun x => post (some (zz_i x)) h) hp (fun z => z.elim n6 (fun w => c17 w.1)) | exact zz_b1 (P := fun x => post (some (zz_i x)) h) hp (Or.inl ((nI_eq (by have := pa_low_le h a 4; omega) (by decide)).mp c6))
        · refine zz_iconst (q := 30) (n := 1) (x := 1) C (by decide +kernel) rfl (by decide +kernel) ?_
          refine zz_goto (off := 4) (tgt := 34) C (by decide +kernel) (by decide) ?_
          refine zz_zret C hr hlk (by decide +kernel) (by decide) hQ (by decide) (by decide) ?_
          first | exact zz_b1 (P := fun x => post (some (zz_i x)) h) hp (Or.inr ⟨c17, zz_b_t c26⟩) | exact zz_b0 (P := fun x => post (some (zz_i x)) h) hp (fun z => z.elim n6 (fun w => zz_b_f c26 w.2)) | exact zz_b0 (P := fun x => post (some (zz_i x)) h) hp (fun z => z.elim n6 (fun w => c17 w.1)) | exact zz_b1 (P := fun x => post (some (zz_i x)) h) hp (Or.inl ((nI_eq (by have := pa_low_le h a 4; omega) (by decide)).mp c6))

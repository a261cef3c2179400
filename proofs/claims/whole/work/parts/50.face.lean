/-! SegmentTrees: calls that throw nothing -/
theorem zz_sw_0_3 (x : Int32) : x = 0 ∨ x = 1 ∨ x = 2 ∨ x = 3 ∨ (x.toInt < 0 ∨ 3 < x.toInt) := by
  by_cases h0 : x.toInt = (0 : Int32).toInt
  · exact Or.inl (Int32.toInt_inj.mp h0)
  by_cases h1 : x.toInt = (1 : Int32).toInt
  · exact Or.inr (Or.inl (Int32.toInt_inj.mp h1))
  by_cases h2 : x.toInt = (2 : Int32).toInt
  · exact Or.inr (Or.inr (Or.inl (Int32.toInt_inj.mp h2)))
  by_cases h3 : x.toInt = (3 : Int32).toInt
  · exact Or.inr (Or.inr (Or.inr (Or.inl (Int32.toInt_inj.mp h3))))
  refine Or.inr (Or.inr (Or.inr (Or.inr (?_))))
  have e0 : (0 : Int32).toInt = 0 := by decide +kernel
  have e1 : (1 : Int32).toInt = 1 := by decide +kernel
  have e2 : (2 : Int32).toInt = 2 := by decide +kernel
  have e3 : (3 : Int32).toInt = 3 := by decide +kernel
  omega
def t_wf (h : zz_H) (a : Nat) : Prop := t_ok h a ∧ or_okN h (t_od h a) ∧ pa_ok h (t_pa h a) ∧ sg_wf h ∧ kd_wf h
/-- where the position stands among the segments -/
def t_bf (h : zz_H) (a i : Nat) : Prop := (∃ s9, zz_fR h 6 0 (t_ps h a) = some s9 ∧ i ≤ or_s h (t_od h a) ∧ (∀ j, j < i → zz_aR h (or_n h (t_od h a)) j ≠ some s9) ∧ (i < or_s h (t_od h a) → zz_aR h (or_n h (t_od h a)) i = some s9)) ∨ (zz_fR h 6 0 (t_ps h a) = none ∧ zz_fI h 6 2 (t_ps h a) = 0 ∧ i = 0) ∨ (zz_fR h 6 0 (t_ps h a) = none ∧ zz_fI h 6 2 (t_ps h a) ≠ 0 ∧ i = or_s h (t_od h a))
/-- the answer of a get -/
def t_an (h : zz_H) (a : Nat) (hd : Int32) (r : Option Nat) (post : Option zz_V → zz_H → Prop) : Prop := (r = none → post (some (zz_i 0)) (t_h0 h a)) ∧ ∀ s, r = some s → post (some (zz_i (zz_fI h 2 0 s))) (t_gt (t_h0 h a) a s hd)
def t_sd (h : zz_H) (a : Nat) : Option Nat := if zz_fI h 6 1 (t_ps h a) = 0 then none else zz_fR h 6 0 (t_ps h a)
def t_sg (h : zz_H) (s : Nat) (w : Int32) : Int32 := if w = 0 then zz_fI h 1 0 (sg_k h s) else if w = 1 then t_nb h (zz_fR h 2 2 s) else if w = 2 then t_nb h (zz_fR h 2 4 s) else if w = 3 then zz_fI h 1 2 (sg_k h s) else t_wq h s w
theorem t_bf_le {h : zz_H} {a i : Nat} (hok : or_ok h (t_od h a)) (hi : t_bf h a i) : i ≤ 60 := by
  have hb := hok.2.2.2.2.2.1
  rcases hi with ⟨-, -, h1, -⟩ | ⟨-, -, h1⟩ | ⟨-, -, h1⟩
  · omega
  · omega
  · omega
def T_T_clearPath : zz_Tr := fun as h post => ∃ a, as = [zz_r 0 (some a)] ∧ t_wf h a ∧ post none (pa_fg (t_h0 h a) (pa_l h (t_pa h a)) 4)
set_option maxRecDepth 100000 in
set_option maxHeartbeats 4000000 in
theorem m_T_clearPath (l : Launch) : zz_Met l y_T_clearPath w_T_clearPath { frames := 3, cells := 0, slots := 0, locals := 53 } T_T_clearPath := by
  refine zz_ofZ (by decide) (fun as h post hT => ?_) ?_
  · obtain ⟨a, rfl, hwf, hp⟩ := hT
    exact ⟨by simp [zz_cat], by simp⟩
  · intro D DA h as post hT p e s m args below meth c Q C hr hlk hnm hQ
    obtain ⟨a, rfl, hwf, hp⟩ := hT
    refine zz_aload_n (q := 1) (f := 0) (i := 0) C (by decide +kernel) rfl rfl rfl ?_
    refine zz_null (q := 2) C 2 (by decide +kernel) rfl ?_
    refine zz_putR (q := 5) C gf_T_40 (fun h => by cases h) (by decide +kernel) rfl (by first | rfl | assumption) ?_
    show zz_Z p l e _ s m args below meth c Q D DA (zz_A h s.heap.size) h _ _ _ _ (t_h0 h a) 0 0
    have hwf0 : t_wf (t_h0 h a) a := hwf
    refine zz_aload_n (q := 6) (f := 0) (i := 0) C (by decide +kernel) rfl rfl rfl ?_
    refine zz_getR (q := 9) C gf_T_22 (by decide +kernel) rfl (by first | rfl | assumption) hwf.1.2.2.1 ?_
    refine zz_callV (q := 12) C (m_P_forget l) cv_T_118 (by decide +kernel) rfl rfl rfl (by first | rfl | assumption) (by decide) (by decide) (Nat.le_of_ble_eq_true rfl) ⟨_, rfl, hwf0.2.2.1, ?_⟩
    refine zz_vret C hr hlk (by decide +kernel) hQ (by decide) (by decide) ?_
    exact hp

def T_T_unique : zz_Tr := fun as h post => ∃ a hd, as = [zz_r 0 (some a), zz_i hd] ∧ t_wf h a ∧ (hd = 0 ∨ hd = 1) ∧ ∀ r, or_first (or_s h (t_od h a)) 0 (or_pm h (t_od h a) (t_pa h a) none) (or_N h (t_od h a)) r → t_an h a hd r post
set_option maxRecDepth 100000 in
set_option maxHeartbeats 4000000 in
theorem m_T_unique (l : Launch) : zz_Met l y_T_unique w_T_unique { frames := 6, cells := 0, slots := 0, locals := 126 } T_T_unique := by
  refine zz_ofZ (by decide) (fun as h post hT => ?_) ?_
  · obtain ⟨a, hd, rfl, hwf, hhd, hp⟩ := hT
    exact ⟨by simp [zz_cat], by simp⟩
  · intro D DA h as post hT p e s m args below meth c Q C hr hlk hnm hQ
    obtain ⟨a, hd, rfl, hwf, hhd, hp⟩ := hT
    refine zz_aload_n (q := 1) (f := 0) (i := 0) C (by decide +kernel) rfl rfl rfl ?_
    refine zz_null (q := 2) C 2 (by decide +kernel) rfl ?_
    refine zz_putR (q := 5) C gf_T_40 (fun h => by cases h) (by decide +kernel) rfl (by first | rfl | assumption) ?_
    show zz_Z p l e _ s m args below meth c Q D DA (zz_A h s.heap.size) h _ _ _ _ (t_h0 h a) 0 0
    have hwf0 : t_wf (t_h0 h a) a := hwf
    refine zz_aload_n (q := 6) (f := 0) (i := 0) C (by decide +kernel) rfl rfl rfl ?_
    refine zz_aload_n (q := 7) (f := 0) (i := 0) C (by decide +kernel) rfl rfl rfl ?_
    refine zz_getR (q := 10) C gf_T_29 (by decide +kernel) rfl (by first | rfl | assumption) hwf.1.2.2.2.1 ?_
    refine zz_aload_n (q := 11) (f := 0) (i := 0) C (by decide +kernel) rfl rfl rfl ?_
    refine zz_getR (q := 14) C gf_T_22 (by decide +kernel) rfl (by first | rfl | assumption) hwf.1.2.2.1 ?_
    refine zz_iconst (q := 15) (n := 0) (x := 0) C (by decide +kernel) rfl (by decide +kernel) ?_
    refine zz_null (q := 16) C 2 (by decide +kernel) rfl ?_
    refine zz_callV (q := 19) C (m_O_firstThatMeets l) cv_T_133 (by decide +kernel) rfl rfl rfl (by first | rfl | assumption) (by decide) (by decide) (Nat.le_of_ble_eq_true rfl) ⟨_, _, 0, _, rfl, (by decide), hwf0.2.1, hwf0.2.2.1, hwf0.2.2.2.1, fun r hr9 => ?_⟩
    refine zz_iload_n (q := 20) (f := 1) (i := 1) C (by decide +kernel) rfl rfl rfl ?_
    refine zz_callV (q := 23) C (m_T_got l) cv_T_137 (by decide +kernel) rfl rfl rfl (by first | rfl | assumption) (by decide) (by decide) (Nat.le_of_ble_eq_true rfl) ⟨_, _, _, rfl, hwf0.1, fun z => ?_, fun s9 z => ?_⟩
    · refine zz_iret C hr hlk (by decide +kernel) hQ (by decide) (by decide) ?_
      exact (hp r hr9).1 z
    · refine zz_iret C hr hlk (by decide +kernel) hQ (by decide) (by decide) ?_
      exact (hp r hr9).2 s9 z

def T_T_next : zz_Tr := fun as h post => ∃ a hd, as = [zz_r 0 (some a), zz_i hd] ∧ t_wf h a ∧ (hd = 0 ∨ hd = 1) ∧ ∀ i r, t_bf h a i → or_first (or_s h (t_od h a)) (i + if zz_fI h 6 1 (t_ps h a) = 0 then 0 else 1) (or_pm h (t_od h a) (t_pa h a) none) (or_N h (t_od h a)) r → t_an h a hd r post
set_option maxRecDepth 100000 in
set_option maxHeartbeats 4000000 in
theorem m_T_next (l : Launch) : zz_Met l y_T_next w_T_next { frames := 6, cells := 0, slots := 0, locals := 126 } T_T_next := by
  refine zz_ofZ (by decide) (fun as h post hT => ?_) ?_
  · obtain ⟨a, hd, rfl, hwf, hhd, hp⟩ := hT
    exact ⟨by simp [zz_cat], by simp⟩
  · intro D DA h as post hT p e s m args below meth c Q C hr hlk hnm hQ
    obtain ⟨a, hd, rfl, hwf, hhd, hp⟩ := hT
    refine zz_aload_n (q := 1) (f := 0) (i := 0) C (by decide +kernel) rfl rfl rfl ?_
    refine zz_null (q := 2) C 2 (by decide +kernel) rfl ?_
    refine zz_putR (q := 5) C gf_T_40 (fun h => by cases h) (by decide +kernel) rfl (by first | rfl | assumption) ?_
    show zz_Z p l e _ s m args below meth c Q D DA (zz_A h s.heap.size) h _ _ _ _ (t_h0 h a) 0 0
    have hwf0 : t_wf (t_h0 h a) a := hwf
    refine zz_aload_n (q := 6) (f := 0) (i := 0) C (by decide +kernel) rfl rfl rfl ?_
    refine zz_aload_n (q := 7) (f := 0) (i := 0) C (by decide +kernel) rfl rfl rfl ?_
    refine zz_getR (q := 10) C gf_T_29 (by decide +kernel) rfl (by first | rfl | assumption) hwf.1.2.2.2.1 ?_
    refine zz_aload_n (q := 11) (f := 0) (i := 0) C (by decide +kernel) rfl rfl rfl ?_
    refine zz_getR (q := 14) C gf_T_22 (by decide +kernel) rfl (by first | rfl | assumption) hwf.1.2.2.1 ?_
    refine zz_aload_n (q := 15) (f := 0) (i := 0) C (by decide +kernel) rfl rfl rfl ?_
    refine zz_getR (q := 18) C gf_T_36 (by decide +kernel) rfl (by first | rfl | assumption) hwf.1.2.2.2.2.1 ?_
    refine zz_aload_n (q := 19) (f := 0) (i := 0) C (by decide +kernel) rfl rfl rfl ?_
    refine zz_getR (q := 22) C gf_T_29 (by decide +kernel) rfl (by first | rfl | assumption) hwf.1.2.2.2.1 ?_
    refine zz_callV (q := 25) C (m_Q_firstBehind l) cv_T_141 (by decide +kernel) rfl rfl rfl (by first | rfl | assumption) (by decide) (by decide) (Nat.le_of_ble_eq_true rfl) ⟨_, _, rfl, hwf0.2.1, fun i hi9 => ?_⟩
    have hi61 : (i + if zz_fI h 6 1 (t_ps h a) = 0 then 0 else 1) ≤ 61 := by
      have := t_bf_le hwf.2.1.1 hi9
      split <;> omega
    refine zz_null (q := 26) C 2 (by decide +kernel) rfl ?_
    refine zz_callV (q := 29) C (m_O_firstThatMeets l) cv_T_133 (by decide +kernel) rfl rfl rfl (by first | rfl | assumption) (by decide) (by decide) (Nat.le_of_ble_eq_true rfl) ⟨_, _, _, _, rfl, hi61, hwf0.2.1, hwf0.2.2.1, hwf0.2.2.2.1, fun r hr9 => ?_⟩
    refine zz_iload_n (q := 30) (f := 1) (i := 1) C (by decide +kernel) rfl rfl rfl ?_
    refine zz_callV (q := 33) C (m_T_got l) cv_T_137 (by decide +kernel) rfl rfl rfl (by first | rfl | assumption) (by decide) (by decide) (Nat.le_of_ble_eq_true rfl) ⟨_, _, _, rfl, hwf0.1, fun z => ?_, fun s9 z => ?_⟩
    · refine zz_iret C hr hlk (by decide +kernel) hQ (by decide) (by decide) ?_
      exact (hp i r hi9 hr9).1 z
    · refine zz_iret C hr hlk (by decide +kernel) hQ (by decide) (by decide) ?_
      exact (hp i r hi9 hr9).2 s9 z

def T_T_at : zz_Tr := fun as h post => ∃ a, as = [zz_r 0 (some a)] ∧ t_wf h a ∧ post (some (zz_i (t_nb h (t_sd h a)))) h
set_option maxRecDepth 100000 in
set_option maxHeartbeats 4000000 in
theorem m_T_at (l : Launch) : zz_Met l y_T_at w_T_at { frames := 2, cells := 0, slots := 0, locals := 32 } T_T_at := by
  refine zz_ofZ (by decide) (fun as h post hT => ?_) ?_
  · obtain ⟨a, rfl, hwf, hp⟩ := hT
    exact ⟨by simp [zz_cat], by simp⟩
  · intro D DA h as post hT p e s m args below meth c Q C hr hlk hnm hQ
    obtain ⟨a, rfl, hwf, hp⟩ := hT
    refine zz_aload_n (q := 1) (f := 0) (i := 0) C (by decide +kernel) rfl rfl rfl ?_
    refine zz_getR (q := 4) C gf_T_36 (by decide +kernel) rfl (by first | rfl | assumption) hwf.1.2.2.2.2.1 ?_
    refine zz_callV (q := 7) C (m_Q_standing l) cv_T_150 (by decide +kernel) rfl rfl rfl (by first | rfl | assumption) (by decide) (by decide) (Nat.le_of_ble_eq_true rfl) ⟨_, rfl, ?_⟩
    refine zz_callS (q := 10) C (m_T_numberOf l) cs_T_161 (by decide +kernel) rfl rfl rfl (by decide) (by decide) (Nat.le_of_ble_eq_true rfl) ⟨_, rfl, ?_⟩
    refine zz_iret C hr hlk (by decide +kernel) hQ (by decide) (by decide) ?_
    exact hp

def T_T_place : zz_Tr := fun as h post => ∃ a, as = [zz_r 0 (some a)] ∧ t_wf h a ∧ ∀ i, t_bf h a i → post (some (zz_i (nI i))) (t_h0 h a)
set_option maxRecDepth 100000 in
set_option maxHeartbeats 4000000 in
theorem m_T_place (l : Launch) : zz_Met l y_T_place w_T_place { frames := 3, cells := 0, slots := 0, locals := 55 } T_T_place := by
  refine zz_ofZ (by decide) (fun as h post hT => ?_) ?_
  · obtain ⟨a, rfl, hwf, hp⟩ := hT
    exact ⟨by simp [zz_cat], by simp⟩
  · intro D DA h as post hT p e s m args below meth c Q C hr hlk hnm hQ
    obtain ⟨a, rfl, hwf, hp⟩ := hT
    refine zz_aload_n (q := 1) (f := 0) (i := 0) C (by decide +kernel) rfl rfl rfl ?_
    refine zz_null (q := 2) C 2 (by decide +kernel) rfl ?_
    refine zz_putR (q := 5) C gf_T_40 (fun h => by cases h) (by decide +kernel) rfl (by first | rfl | assumption) ?_
    show zz_Z p l e _ s m args below meth c Q D DA (zz_A h s.heap.size) h _ _ _ _ (t_h0 h a) 0 0
    have hwf0 : t_wf (t_h0 h a) a := hwf
    refine zz_aload_n (q := 6) (f := 0) (i := 0) C (by decide +kernel) rfl rfl rfl ?_
    refine zz_getR (q := 9) C gf_T_36 (by decide +kernel) rfl (by first | rfl | assumption) hwf.1.2.2.2.2.1 ?_
    refine zz_aload_n (q := 10) (f := 0) (i := 0) C (by decide +kernel) rfl rfl rfl ?_
    refine zz_getR (q := 13) C gf_T_29 (by decide +kernel) rfl (by first | rfl | assumption) hwf.1.2.2.2.1 ?_
    refine zz_callV (q := 16) C (m_Q_before l) cv_T_165 (by decide +kernel) rfl rfl rfl (by first | rfl | assumption) (by decide) (by decide) (Nat.le_of_ble_eq_true rfl) ⟨_, _, rfl, hwf0.2.1, fun i hi9 => ?_⟩
    refine zz_iret C hr hlk (by decide +kernel) hQ (by decide) (by decide) ?_
    exact hp i hi9

def T_T_count : zz_Tr := fun as h post => ∃ a, as = [zz_r 0 (some a)] ∧ t_wf h a ∧ post (some (zz_i (nI (or_s h (t_od h a))))) (t_h0 h a)
set_option maxRecDepth 100000 in
set_option maxHeartbeats 4000000 in
theorem m_T_count (l : Launch) : zz_Met l y_T_count w_T_count { frames := 1, cells := 0, slots := 0, locals := 12 } T_T_count := by
  refine zz_ofZ (by decide) (fun as h post hT => ?_) ?_
  · obtain ⟨a, rfl, hwf, hp⟩ := hT
    exact ⟨by simp [zz_cat], by simp⟩
  · intro D DA h as post hT p e s m args below meth c Q C hr hlk hnm hQ
    obtain ⟨a, rfl, hwf, hp⟩ := hT
    refine zz_aload_n (q := 1) (f := 0) (i := 0) C (by decide +kernel) rfl rfl rfl ?_
    refine zz_null (q := 2) C 2 (by decide +kernel) rfl ?_
    refine zz_putR (q := 5) C gf_T_40 (fun h => by cases h) (by decide +kernel) rfl (by first | rfl | assumption) ?_
    show zz_Z p l e _ s m args below meth c Q D DA (zz_A h s.heap.size) h _ _ _ _ (t_h0 h a) 0 0
    have hwf0 : t_wf (t_h0 h a) a := hwf
    refine zz_aload_n (q := 6) (f := 0) (i := 0) C (by decide +kernel) rfl rfl rfl ?_
    refine zz_getR (q := 9) C gf_T_29 (by decide +kernel) rfl (by first | rfl | assumption) hwf.1.2.2.2.1 ?_
    refine zz_getI (q := 12) C gf_T_191 (by decide +kernel) rfl (by first | rfl | assumption) hwf.2.1.1.2.2.2.2.2.2 ?_
    refine zz_iret C hr hlk (by decide +kernel) hQ (by decide) (by decide) ?_
    exact hp

def T_T_segment : zz_Tr := fun as h post => ∃ a num wh, as = [zz_r 0 (some a), zz_i num, zz_i wh] ∧ t_wf h a ∧ ∀ r, or_first (or_s h (t_od h a)) 0 (fun i => zz_fI h 2 0 (or_N h (t_od h a) i) = num) (or_N h (t_od h a)) r → (r = none → post (some (zz_i (-1))) (t_h0 h a)) ∧ ∀ s, r = some s → post (some (zz_i (t_sg h s wh))) (t_h0 h a)
set_option maxRecDepth 100000 in
set_option maxHeartbeats 4000000 in
theorem m_T_segment (l : Launch) : zz_Met l y_T_segment w_T_segment { frames := 3, cells := 0, slots := 0, locals := 54 } T_T_segment := by
  refine zz_ofZ (by decide) (fun as h post hT => ?_) ?_
  · obtain ⟨a, num, wh, rfl, hwf, hp⟩ := hT
    exact ⟨by simp [zz_cat], by simp⟩
  · intro D DA h as post hT p e s m args below meth c Q C hr hlk hnm hQ
    obtain ⟨a, num, wh, rfl, hwf, hp⟩ := hT
    refine zz_aload_n (q := 1) (f := 0) (i := 0) C (by decide +kernel) rfl rfl rfl ?_
    refine zz_null (q := 2) C 2 (by decide +kernel) rfl ?_
    refine zz_putR (q := 5) C gf_T_40 (fun h => by cases h) (by decide +kernel) rfl (by first | rfl | assumption) ?_
    show zz_Z p l e _ s m args below meth c Q D DA (zz_A h s.heap.size) h _ _ _ _ (t_h0 h a) 0 0
    have hwf0 : t_wf (t_h0 h a) a := hwf
    refine zz_aload_n (q := 6) (f := 0) (i := 0) C (by decide +kernel) rfl rfl rfl ?_
    refine zz_getR (q := 9) C gf_T_29 (by decide +kernel) rfl (by first | rfl | assumption) hwf.1.2.2.2.1 ?_
    refine zz_iload_n (q := 10) (f := 1) (i := 1) C (by decide +kernel) rfl rfl rfl ?_
    refine zz_callV (q := 13) C (m_O_withNumber l) cv_T_251 (by decide +kernel) rfl rfl rfl (by first | rfl | assumption) (by decide) (by decide) (Nat.le_of_ble_eq_true rfl) ⟨_, _, rfl, hwf0.2.1, fun r hr9 => ?_⟩
    refine zz_astore_n (q := 14) (f := 3) (i := 3) C (by decide +kernel) rfl rfl (by decide) rfl ?_
    refine zz_aload_n (q := 15) (f := 3) (i := 3) C (by decide +kernel) rfl rfl rfl ?_
    refine zz_ifnonnull (off := 5) (tgt := 20) (q := 18) C (by decide +kernel) (by decide) rfl (fun a15 c15 => ?_) (fun c15 => ?_)
    · refine zz_know (fun hty _ hTL _ => ?_)
      obtain ⟨ns, hts⟩ := hTL 3 _ rfl _ c15
      have hos : sg_ok h a15 := hwf.2.2.2.1 _ ns hts
      obtain ⟨nk, htk⟩ := hty.1 _ 2 ns 1 1 hts (by decide) rfl _ hos.1
      have hks : kd_ok h (sg_k h a15) := hwf.2.2.2.2 _ nk htk
      refine zz_iload_n (q := 21) (f := 2) (i := 2) C (by decide +kernel) rfl rfl rfl ?_
      rcases (zz_sw_0_3 wh) with hsw | hsw | hsw | hsw | hsw
      · refine zz_tableIn (dflt := 63) (lo := 0) (hi := 3) (offs := #[31, 39, 47, 55]) (len := 31) (off := 31) (tgt := 52) C (by decide +kernel) (by rw [hsw]; decide) (by rw [hsw]; decide) (by rw [hsw]; rfl) (by decide) ?_
        refine zz_aload_n (q := 53) (f := 3) (i := 3) C (by decide +kernel) rfl rfl rfl ?_
        refine zz_getR (q := 56) C gf_T_168 (by decide +kernel) rfl (by first | rfl | assumption) hos.1 ?_
        refine zz_getI (q := 59) C gf_T_255 (by decide +kernel) rfl (by first | rfl | assumption) rfl ?_
        refine zz_iret C hr hlk (by decide +kernel) hQ (by decide) (by decide) ?_
        have hp2 := (hp r hr9).2 _ c15
        rw [t_sg] at hp2
        rw [if_pos hsw] at hp2
        exact hp2
      · refine zz_tableIn (dflt := 63) (lo := 0) (hi := 3) (offs := #[31, 39, 47, 55]) (len := 31) (off := 39) (tgt := 60) C (by decide +kernel) (by rw [hsw]; decide) (by rw [hsw]; decide) (by rw [hsw]; rfl) (by decide) ?_
        refine zz_aload_n (q := 61) (f := 3) (i := 3) C (by decide +kernel) rfl rfl rfl ?_
        refine zz_getR (q := 64) C gf_T_258 (by decide +kernel) rfl (by first | rfl | assumption) rfl ?_
        refine zz_callS (q := 67) C (m_T_numberOf l) cs_T_161 (by decide +kernel) rfl rfl rfl (by decide) (by decide) (Nat.le_of_ble_eq_true rfl) ⟨_, rfl, ?_⟩
        refine zz_iret C hr hlk (by decide +kernel) hQ (by decide) (by decide) ?_
        have hp2 := (hp r hr9).2 _ c15
        rw [t_sg] at hp2
        rw [if_neg (by rw [hsw]; decide), if_pos hsw] at hp2
        exact hp2
      · refine zz_tableIn (dflt := 63) (lo := 0) (hi := 3) (offs := #[31, 39, 47, 55]) (len := 31) (off := 47) (tgt := 68) C (by decide +kernel) (by rw [hsw]; decide) (by rw [hsw]; decide) (by rw [hsw]; rfl) (by decide) ?_
        refine zz_aload_n (q := 69) (f := 3) (i := 3) C (by decide +kernel) rfl rfl rfl ?_
        refine zz_getR (q := 72) C gf_T_220 (by decide +kernel) rfl (by first | rfl | assumption) rfl ?_
        refine zz_callS (q := 75) C (m_T_numberOf l) cs_T_161 (by decide +kernel) rfl rfl rfl (by decide) (by decide) (Nat.le_of_ble_eq_true rfl) ⟨_, rfl, ?_⟩
        refine zz_iret C hr hlk (by decide +kernel) hQ (by decide) (by decide) ?_
        have hp2 := (hp r hr9).2 _ c15
        rw [t_sg] at hp2
        rw [if_neg (by rw [hsw]; decide), if_neg (by rw [hsw]; decide), if_pos hsw] at hp2
        exact hp2
      · refine zz_tableIn (dflt := 63) (lo := 0) (hi := 3) (offs := #[31, 39, 47, 55]) (len := 31) (off := 55) (tgt := 76) C (by decide +kernel) (by rw [hsw]; decide) (by rw [hsw]; decide) (by rw [hsw]; rfl) (by decide) ?_
        refine zz_aload_n (q := 77) (f := 3) (i := 3) C (by decide +kernel) rfl rfl rfl ?_
        refine zz_getR (q := 80) C gf_T_168 (by decide +kernel) rfl (by first | rfl | assumption) hos.1 ?_
        refine zz_getI (q := 83) C gf_T_57 (by decide +kernel) rfl (by first | rfl | assumption) rfl ?_
        refine zz_iret C hr hlk (by decide +kernel) hQ (by decide) (by decide) ?_
        have hp2 := (hp r hr9).2 _ c15
        rw [t_sg] at hp2
        rw [if_neg (by rw [hsw]; decide), if_neg (by rw [hsw]; decide), if_neg (by rw [hsw]; decide), if_pos hsw] at hp2
        exact hp2
      · refine zz_tableOut (dflt := 63) (lo := 0) (hi := 3) (offs := #[31, 39, 47, 55]) (len := 31) (tgt := 84) C (by decide +kernel) hsw (by decide) ?_
        refine zz_aload_n (q := 85) (f := 3) (i := 3) C (by decide +kernel) rfl rfl rfl ?_
        refine zz_iload_n (q := 86) (f := 2) (i := 2) C (by decide +kernel) rfl rfl rfl ?_
        refine zz_callS (q := 89) C (m_T_wordAsked l) cs_T_260 (by decide +kernel) rfl rfl rfl (by decide) (by decide) (Nat.le_of_ble_eq_true rfl) ⟨a15, wh, (by rw [c15]), hos, hks, ?_⟩
        refine zz_iret C hr hlk (by decide +kernel) hQ (by decide) (by decide) ?_
        have hp2 := (hp r hr9).2 _ c15
        rw [t_sg] at hp2
        have n0 : wh ≠ 0 := fun z => by rw [z] at hsw; exact absurd hsw (by decide)
        have n1 : wh ≠ 1 := fun z => by rw [z] at hsw; exact absurd hsw (by decide)
        have n2 : wh ≠ 2 := fun z => by rw [z] at hsw; exact absurd hsw (by decide)
        have n3 : wh ≠ 3 := fun z => by rw [z] at hsw; exact absurd hsw (by decide)
        rw [if_neg n0, if_neg n1, if_neg n2, if_neg n3] at hp2
        exact hp2
    · refine zz_iconst (q := 19) (n := -1) (x := (-1)) C (by decide +kernel) rfl (by decide +kernel) ?_
      refine zz_iret C hr hlk (by decide +kernel) hQ (by decide) (by decide) ?_
      exact (hp r hr9).1 c15

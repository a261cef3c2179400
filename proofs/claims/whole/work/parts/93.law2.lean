/-! contracts with a weaker end; the law's helpers -/
def zz_up (T : zz_Tr) : zz_Tr := fun as h post => ∃ P, T as h P ∧ ∀ v h', P v h' → post v h'
def zz_upX (T : zz_TX) : zz_TX := fun as h post => ∃ P, T as h P ∧ ∀ v h', P v h' → post v h'
theorem zz_out_up {D : va_G} {DA : Nat → ClassId} {A : Nat → Prop} {h0 : zz_H} {P post : Option zz_V → zz_H → Prop} (hP : ∀ v h', P v h' → post v h') {a : Array Value} {st t : State} {ou : Outcome} (hz : zz_out D DA A h0 P a st ou t) : zz_out D DA A h0 post a st ou t := by
  obtain ⟨r, h', g1, g2⟩ := hz
  exact ⟨r, h', hP _ _ g1, g2⟩
theorem zz_Met_up {l : Launch} {y : MethodName} {ws : List Cond} {rm : Room} {T : zz_Tr} (hM : zz_Met l y ws rm T) : zz_Met l y ws rm (zz_up T) := by
  intro D DA h sz as post ⟨P, hT, hP⟩
  exact MetFree.mono (hM D DA h sz as P hT) (fun _ _ z => z) (fun _ _ _ _ _ z => z) (fun a st o t _ z => ⟨zz_out_up hP z.1, z.2⟩)
theorem zz_MetX_up {l : Launch} {y : MethodName} {ws : List Cond} {rm : Room} {T : zz_TX} (hM : zz_MetX l y ws rm T) : zz_MetX l y ws rm (zz_upX T) := by
  intro D DA h sz as post ⟨P, hT, hP⟩
  refine MetFree.mono (hM D DA h sz as P hT) (fun _ _ z => z) (fun _ _ _ _ _ z => z) (fun a st o t _ z => ⟨?_, z.2⟩)
  obtain ⟨x, X, h', g1, g2⟩ := z.1
  exact ⟨x, X, h', hP _ _ g1, g2⟩
theorem zz_MetL_up {l : Launch} {y : MethodName} {ws : List Cond} {rm : Room} {T : zz_Tr} (hM : zz_MetL l y ws rm T) : zz_MetL l y ws rm (zz_up T) := by
  intro D DA h sz as post ⟨P, hT, hP⟩
  exact MetFree.mono (hM D DA h sz as P hT) (fun _ _ z => z) (fun _ _ _ _ _ z => z) (fun a st o t _ z => ⟨zz_out_up hP z.1, z.2⟩)
theorem kl_W_13 : Cond.classLink "SegmentTreesLaw" 13 xx_IA ∈ zz_all := zz_in (i := 282) (by decide +kernel) (by decide +kernel)
theorem kl_W_15 : Cond.classLink "SegmentTreesLaw" 15 xx_IS ∈ zz_all := zz_in (i := 283) (by decide +kernel) (by decide +kernel)
theorem kl_W_43 : Cond.classLink "SegmentTreesLaw" 43 xx_IB ∈ zz_all := zz_in (i := 514) (by decide +kernel) (by decide +kernel)
theorem cw_W_63 : zz_CW "SegmentTreesLaw" 63 y_W_type c_W_type 8 (some (.int)) [(0, 13, 16, 13), (0, 13, 20, 15)] 7 := ⟨zz_in (i := 279) (by decide +kernel) (by decide +kernel), zz_in (i := 280) (by decide +kernel) (by decide +kernel), zz_in (i := 34) (by decide +kernel) (by decide +kernel), zz_in (i := 281) (by decide +kernel) (by decide +kernel), by decide, by decide, by decide +kernel⟩
def T_W_type : zz_Tr := fun as h post => ∃ x p1 p2 p3 p4 p5 p6, as = [zz_r 0 (some x), zz_i p1, zz_i p2, zz_i p3, zz_i p4, zz_i p5, zz_i p6] ∧ (B_T_type [zz_r 0 (some x), zz_i p1, zz_i p2, zz_i p3, zz_i p4, zz_i p5, zz_i p6] h (fun v h' => v = none ∧ post (some (zz_i 0)) h') (fun _ _ => False) ∨ B_T_type [zz_r 0 (some x), zz_i p1, zz_i p2, zz_i p3, zz_i p4, zz_i p5, zz_i p6] h (fun _ _ => False) (fun X h' => (X = xx_IA ∧ post (some (zz_i 1)) h') ∨ (X = xx_IS ∧ post (some (zz_i 2)) h')))
set_option maxRecDepth 100000 in
set_option maxHeartbeats 4000000 in
theorem m_W_type (l : Launch) (hl : l.stackTraces = false) : zz_MetL l y_W_type (Cond.codeWith y_W_type c_W_type 8 (some (.int)) [(0, 13, 16, 13), (0, 13, 20, 15)] :: zz_all) { frames := 8, cells := 3, slots := 20, locals := 137 } T_W_type := by
  refine zz_ofL hl (by decide) (fun as h post hT => ?_) ?_
  · obtain ⟨x, p1, p2, p3, p4, p5, p6, rfl, hB⟩ := hT
    exact ⟨by simp [zz_cat], by simp⟩
  · intro D DA h as post hT p e s m args below meth c Q C hcl hr hlk hQ
    obtain ⟨x, p1, p2, p3, p4, p5, p6, rfl, hB⟩ := hT
    rcases hB with hB | hB
    · refine zz_aload_n (q := 1) (f := 0) (i := 0) C (by decide +kernel) rfl rfl rfl ?_
      refine zz_iload_n (q := 2) (f := 1) (i := 1) C (by decide +kernel) rfl rfl rfl ?_
      refine zz_iload_n (q := 3) (f := 2) (i := 2) C (by decide +kernel) rfl rfl rfl ?_
      refine zz_iload_n (q := 4) (f := 3) (i := 3) C (by decide +kernel) rfl rfl rfl ?_
      refine zz_iload (q := 6) (i := 4) C (by decide +kernel) rfl rfl ?_
      refine zz_iload (q := 8) (i := 5) C (by decide +kernel) rfl rfl ?_
      refine zz_iload (q := 10) (i := 6) C (by decide +kernel) rfl rfl ?_
      refine zz_callV (q := 13) C (zz_Met_up (m_T_type l)) cv_W_7 (by decide +kernel) rfl rfl rfl (by first | rfl | assumption) (by decide) (by decide) (Nat.le_of_ble_eq_true rfl) ?_
      refine ⟨_, hB, fun v h' hp => ?_⟩
      obtain ⟨rfl, hp⟩ := hp
      refine zz_goto (off := 11) (tgt := 24) C (by decide +kernel) (by decide) ?_
      refine zz_iconst (q := 25) (n := 0) (x := 0) C (by decide +kernel) rfl (by decide +kernel) ?_
      refine zz_iret C hr hlk (by decide +kernel) hQ (by decide) (by decide) ?_
      exact hp
    · refine zz_aload_n (q := 1) (f := 0) (i := 0) C (by decide +kernel) rfl rfl rfl ?_
      refine zz_iload_n (q := 2) (f := 1) (i := 1) C (by decide +kernel) rfl rfl rfl ?_
      refine zz_iload_n (q := 3) (f := 2) (i := 2) C (by decide +kernel) rfl rfl rfl ?_
      refine zz_iload_n (q := 4) (f := 3) (i := 3) C (by decide +kernel) rfl rfl rfl ?_
      refine zz_iload (q := 6) (i := 4) C (by decide +kernel) rfl rfl ?_
      refine zz_iload (q := 8) (i := 5) C (by decide +kernel) rfl rfl ?_
      refine zz_iload (q := 10) (i := 6) C (by decide +kernel) rfl rfl ?_
      refine zz_callVC C hcl (zz_MetX_up (x_T_type l hl)) cv_W_7 (by decide +kernel) rfl rfl (by first | rfl | assumption) (by decide) (by decide) (Nat.le_of_ble_eq_true rfl) ⟨_, hB, fun X h' hp => ?_⟩
      rcases hp with ⟨rfl, hp⟩ | ⟨rfl, hp⟩
      · refine Or.inl ⟨0, 13, 16, 13, _, rfl, by decide, by decide, by decide, kl_W_13, 18, Or.inl ⟨7, by decide, by decide +kernel, rfl⟩, ?_⟩
        refine zz_iconst (q := 19) (n := 1) (x := 1) C (by decide +kernel) rfl (by decide +kernel) ?_
        refine zz_iret C hr hlk (by decide +kernel) hQ (by decide) (by decide) ?_
        exact hp
      · refine Or.inr ⟨0, 13, 16, 13, xx_IA, 0, 13, 20, 15, _, rfl, by decide, kl_W_13, Or.inl ⟨rfl, rfl⟩, by decide, by decide, by decide, kl_W_15, 22, Or.inl ⟨7, by decide, by decide +kernel, rfl⟩, ?_⟩
        refine zz_iconst (q := 23) (n := 2) (x := 2) C (by decide +kernel) rfl (by decide +kernel) ?_
        refine zz_iret C hr hlk (by decide +kernel) hQ (by decide) (by decide) ?_
        exact hp
theorem cw_W_72 : zz_CW "SegmentTreesLaw" 72 y_W_twins c_W_twins 4 (some (.int)) [(0, 6, 9, 13), (0, 6, 12, 15)] 3 := ⟨zz_in (i := 429) (by decide +kernel) (by decide +kernel), zz_in (i := 430) (by decide +kernel) (by decide +kernel), zz_in (i := 34) (by decide +kernel) (by decide +kernel), zz_in (i := 431) (by decide +kernel) (by decide +kernel), by decide, by decide, by decide +kernel⟩
def T_W_twins : zz_Tr := fun as h post => ∃ x p1 p2, as = [zz_r 0 (some x), zz_i p1, zz_i p2] ∧ (B_T_twins [zz_r 0 (some x), zz_i p1, zz_i p2] h (fun v h' => v = none ∧ post (some (zz_i 0)) h') (fun _ _ => False) ∨ B_T_twins [zz_r 0 (some x), zz_i p1, zz_i p2] h (fun _ _ => False) (fun X h' => (X = xx_IA ∧ post (some (zz_i 1)) h') ∨ (X = xx_IS ∧ post (some (zz_i 2)) h')))
set_option maxRecDepth 100000 in
set_option maxHeartbeats 4000000 in
theorem m_W_twins (l : Launch) (hl : l.stackTraces = false) : zz_MetL l y_W_twins (Cond.codeWith y_W_twins c_W_twins 4 (some (.int)) [(0, 6, 9, 13), (0, 6, 12, 15)] :: zz_all) { frames := 8, cells := 4, slots := 24, locals := 136 } T_W_twins := by
  refine zz_ofL hl (by decide) (fun as h post hT => ?_) ?_
  · obtain ⟨x, p1, p2, rfl, hB⟩ := hT
    exact ⟨by simp [zz_cat], by simp⟩
  · intro D DA h as post hT p e s m args below meth c Q C hcl hr hlk hQ
    obtain ⟨x, p1, p2, rfl, hB⟩ := hT
    rcases hB with hB | hB
    · refine zz_aload_n (q := 1) (f := 0) (i := 0) C (by decide +kernel) rfl rfl rfl ?_
      refine zz_iload_n (q := 2) (f := 1) (i := 1) C (by decide +kernel) rfl rfl rfl ?_
      refine zz_iload_n (q := 3) (f := 2) (i := 2) C (by decide +kernel) rfl rfl rfl ?_
      refine zz_callV (q := 6) C (zz_Met_up (m_T_twins l)) cv_W_17 (by decide +kernel) rfl rfl rfl (by first | rfl | assumption) (by decide) (by decide) (Nat.le_of_ble_eq_true rfl) ?_
      refine ⟨_, hB, fun v h' hp => ?_⟩
      obtain ⟨rfl, hp⟩ := hp
      refine zz_goto (off := 9) (tgt := 15) C (by decide +kernel) (by decide) ?_
      refine zz_iconst (q := 16) (n := 0) (x := 0) C (by decide +kernel) rfl (by decide +kernel) ?_
      refine zz_iret C hr hlk (by decide +kernel) hQ (by decide) (by decide) ?_
      exact hp
    · refine zz_aload_n (q := 1) (f := 0) (i := 0) C (by decide +kernel) rfl rfl rfl ?_
      refine zz_iload_n (q := 2) (f := 1) (i := 1) C (by decide +kernel) rfl rfl rfl ?_
      refine zz_iload_n (q := 3) (f := 2) (i := 2) C (by decide +kernel) rfl rfl rfl ?_
      refine zz_callVC C hcl (zz_MetX_up (x_T_twins l hl)) cv_W_17 (by decide +kernel) rfl rfl (by first | rfl | assumption) (by decide) (by decide) (Nat.le_of_ble_eq_true rfl) ⟨_, hB, fun X h' hp => ?_⟩
      rcases hp with ⟨rfl, hp⟩ | ⟨rfl, hp⟩
      · refine Or.inl ⟨0, 6, 9, 13, _, rfl, by decide, by decide, by decide, kl_W_13, 10, Or.inr ⟨3, by decide, by decide +kernel, rfl⟩, ?_⟩
        refine zz_iconst (q := 11) (n := 1) (x := 1) C (by decide +kernel) rfl (by decide +kernel) ?_
        refine zz_iret C hr hlk (by decide +kernel) hQ (by decide) (by decide) ?_
        exact hp
      · refine Or.inr ⟨0, 6, 9, 13, xx_IA, 0, 6, 12, 15, _, rfl, by decide, kl_W_13, Or.inl ⟨rfl, rfl⟩, by decide, by decide, by decide, kl_W_15, 13, Or.inr ⟨3, by decide, by decide +kernel, rfl⟩, ?_⟩
        refine zz_iconst (q := 14) (n := 2) (x := 2) C (by decide +kernel) rfl (by decide +kernel) ?_
        refine zz_iret C hr hlk (by decide +kernel) hQ (by decide) (by decide) ?_
        exact hp
theorem cw_W_76 : zz_CW "SegmentTreesLaw" 76 y_W_second c_W_second 4 (some (.int)) [(0, 6, 9, 13), (0, 6, 12, 15)] 3 := ⟨zz_in (i := 449) (by decide +kernel) (by decide +kernel), zz_in (i := 450) (by decide +kernel) (by decide +kernel), zz_in (i := 34) (by decide +kernel) (by decide +kernel), zz_in (i := 451) (by decide +kernel) (by decide +kernel), by decide, by decide, by decide +kernel⟩
def T_W_second : zz_Tr := fun as h post => ∃ x p1 p2, as = [zz_r 0 (some x), zz_i p1, zz_i p2] ∧ (B_T_second [zz_r 0 (some x), zz_i p1, zz_i p2] h (fun v h' => v = none ∧ post (some (zz_i 0)) h') (fun _ _ => False) ∨ B_T_second [zz_r 0 (some x), zz_i p1, zz_i p2] h (fun _ _ => False) (fun X h' => (X = xx_IA ∧ post (some (zz_i 1)) h') ∨ (X = xx_IS ∧ post (some (zz_i 2)) h')))
set_option maxRecDepth 100000 in
set_option maxHeartbeats 4000000 in
theorem m_W_second (l : Launch) (hl : l.stackTraces = false) : zz_MetL l y_W_second (Cond.codeWith y_W_second c_W_second 4 (some (.int)) [(0, 6, 9, 13), (0, 6, 12, 15)] :: zz_all) { frames := 8, cells := 3, slots := 18, locals := 135 } T_W_second := by
  refine zz_ofL hl (by decide) (fun as h post hT => ?_) ?_
  · obtain ⟨x, p1, p2, rfl, hB⟩ := hT
    exact ⟨by simp [zz_cat], by simp⟩
  · intro D DA h as post hT p e s m args below meth c Q C hcl hr hlk hQ
    obtain ⟨x, p1, p2, rfl, hB⟩ := hT
    rcases hB with hB | hB
    · refine zz_aload_n (q := 1) (f := 0) (i := 0) C (by decide +kernel) rfl rfl rfl ?_
      refine zz_iload_n (q := 2) (f := 1) (i := 1) C (by decide +kernel) rfl rfl rfl ?_
      refine zz_iload_n (q := 3) (f := 2) (i := 2) C (by decide +kernel) rfl rfl rfl ?_
      refine zz_callV (q := 6) C (zz_Met_up (m_T_second l)) cv_W_21 (by decide +kernel) rfl rfl rfl (by first | rfl | assumption) (by decide) (by decide) (Nat.le_of_ble_eq_true rfl) ?_
      refine ⟨_, hB, fun v h' hp => ?_⟩
      obtain ⟨rfl, hp⟩ := hp
      refine zz_goto (off := 9) (tgt := 15) C (by decide +kernel) (by decide) ?_
      refine zz_iconst (q := 16) (n := 0) (x := 0) C (by decide +kernel) rfl (by decide +kernel) ?_
      refine zz_iret C hr hlk (by decide +kernel) hQ (by decide) (by decide) ?_
      exact hp
    · refine zz_aload_n (q := 1) (f := 0) (i := 0) C (by decide +kernel) rfl rfl rfl ?_
      refine zz_iload_n (q := 2) (f := 1) (i := 1) C (by decide +kernel) rfl rfl rfl ?_
      refine zz_iload_n (q := 3) (f := 2) (i := 2) C (by decide +kernel) rfl rfl rfl ?_
      refine zz_callVC C hcl (zz_MetX_up (x_T_second l hl)) cv_W_21 (by decide +kernel) rfl rfl (by first | rfl | assumption) (by decide) (by decide) (Nat.le_of_ble_eq_true rfl) ⟨_, hB, fun X h' hp => ?_⟩
      rcases hp with ⟨rfl, hp⟩ | ⟨rfl, hp⟩
      · refine Or.inl ⟨0, 6, 9, 13, _, rfl, by decide, by decide, by decide, kl_W_13, 10, Or.inr ⟨3, by decide, by decide +kernel, rfl⟩, ?_⟩
        refine zz_iconst (q := 11) (n := 1) (x := 1) C (by decide +kernel) rfl (by decide +kernel) ?_
        refine zz_iret C hr hlk (by decide +kernel) hQ (by decide) (by decide) ?_
        exact hp
      · refine Or.inr ⟨0, 6, 9, 13, xx_IA, 0, 6, 12, 15, _, rfl, by decide, kl_W_13, Or.inl ⟨rfl, rfl⟩, by decide, by decide, by decide, kl_W_15, 13, Or.inr ⟨3, by decide, by decide +kernel, rfl⟩, ?_⟩
        refine zz_iconst (q := 14) (n := 2) (x := 2) C (by decide +kernel) rfl (by decide +kernel) ?_
        refine zz_iret C hr hlk (by decide +kernel) hQ (by decide) (by decide) ?_
        exact hp
theorem cw_W_83 : zz_CW "SegmentTreesLaw" 83 y_W_path c_W_path 7 (some (.int)) [(0, 21, 24, 13)] 6 := ⟨zz_in (i := 462) (by decide +kernel) (by decide +kernel), zz_in (i := 463) (by decide +kernel) (by decide +kernel), zz_in (i := 34) (by decide +kernel) (by decide +kernel), zz_in (i := 464) (by decide +kernel) (by decide +kernel), by decide, by decide, by decide +kernel⟩
def T_W_path : zz_Tr := fun as h post => ∃ x p1 p2 p3 p4 u, as = [zz_r 0 (some x), zz_i p1, zz_i p2, zz_i p3, zz_i p4, zz_r 92 (some u)] ∧ (B_T_path [zz_r 0 (some x), zz_i p1, zz_i p2, zz_i p3, zz_i p4] h (fun v h' => ∃ a : Int32, v = some (zz_i a) ∧ (a = 0 ∨ a = 1) ∧ zz_tg h' u = some (92, 1) ∧ post (some (zz_i 0)) (zz_sL h' u 0 (if a = 0 then 0 else 1))) (fun _ _ => False) ∨ B_T_path [zz_r 0 (some x), zz_i p1, zz_i p2, zz_i p3, zz_i p4] h (fun _ _ => False) (fun X h' => (X = xx_IA ∧ post (some (zz_i 1)) h')))
set_option maxRecDepth 100000 in
set_option maxHeartbeats 4000000 in
theorem m_W_path (l : Launch) (hl : l.stackTraces = false) : zz_MetL l y_W_path (Cond.codeWith y_W_path c_W_path 7 (some (.int)) [(0, 21, 24, 13)] :: zz_all) { frames := 8, cells := 2, slots := 12, locals := 137 } T_W_path := by
  refine zz_ofL hl (by decide) (fun as h post hT => ?_) ?_
  · obtain ⟨x, p1, p2, p3, p4, u, rfl, hB⟩ := hT
    exact ⟨by simp [zz_cat], by simp⟩
  · intro D DA h as post hT p e s m args below meth c Q C hcl hr hlk hQ
    obtain ⟨x, p1, p2, p3, p4, u, rfl, hB⟩ := hT
    rcases hB with hB | hB
    · refine zz_aload (q := 2) (i := 5) C (by decide +kernel) rfl rfl ?_
      refine zz_iconst (q := 3) (n := 0) (x := 0) C (by decide +kernel) rfl (by decide +kernel) ?_
      refine zz_aload_n (q := 4) (f := 0) (i := 0) C (by decide +kernel) rfl rfl rfl ?_
      refine zz_iload_n (q := 5) (f := 1) (i := 1) C (by decide +kernel) rfl rfl rfl ?_
      refine zz_iload_n (q := 6) (f := 2) (i := 2) C (by decide +kernel) rfl rfl rfl ?_
      refine zz_iload_n (q := 7) (f := 3) (i := 3) C (by decide +kernel) rfl rfl rfl ?_
      refine zz_iload (q := 9) (i := 4) C (by decide +kernel) rfl rfl ?_
      refine zz_callV (q := 12) C (zz_Met_up (m_T_path l)) cv_W_24 (by decide +kernel) rfl rfl rfl (by first | rfl | assumption) (by decide) (by decide) (Nat.le_of_ble_eq_true rfl) ?_
      refine ⟨_, hB, fun v h' hp => ?_⟩
      obtain ⟨a9, rfl, ha9, hu, hp⟩ := hp
      refine zz_if_eq (off := 7) (tgt := 19) (q := 15) C (by decide +kernel) (by decide) rfl (fun c12 => ?_) (fun c12 => ?_)
      · refine zz_lconst (q := 20) (n := 0) (x := 0) C (by decide +kernel) rfl (by decide +kernel) ?_
        refine zz_lastore (q := 21) C (by decide +kernel) rfl rfl hu rfl (by decide) (by decide) ?_
        refine zz_goto (off := 7) (tgt := 28) C (by decide +kernel) (by decide) ?_
        refine zz_iconst (q := 29) (n := 0) (x := 0) C (by decide +kernel) rfl (by decide +kernel) ?_
        refine zz_iret C hr hlk (by decide +kernel) hQ (by decide) (by decide) ?_
        first
          | (rw [if_pos c12] at hp; exact hp)
          | (rw [if_neg c12] at hp; exact hp)
      · refine zz_lconst (q := 16) (n := 1) (x := 1) C (by decide +kernel) rfl (by decide +kernel) ?_
        refine zz_goto (off := 4) (tgt := 20) C (by decide +kernel) (by decide) ?_
        refine zz_lastore (q := 21) C (by decide +kernel) rfl rfl hu rfl (by decide) (by decide) ?_
        refine zz_goto (off := 7) (tgt := 28) C (by decide +kernel) (by decide) ?_
        refine zz_iconst (q := 29) (n := 0) (x := 0) C (by decide +kernel) rfl (by decide +kernel) ?_
        refine zz_iret C hr hlk (by decide +kernel) hQ (by decide) (by decide) ?_
        first
          | (rw [if_pos c12] at hp; exact hp)
          | (rw [if_neg c12] at hp; exact hp)
    · refine zz_aload (q := 2) (i := 5) C (by decide +kernel) rfl rfl ?_
      refine zz_iconst (q := 3) (n := 0) (x := 0) C (by decide +kernel) rfl (by decide +kernel) ?_
      refine zz_aload_n (q := 4) (f := 0) (i := 0) C (by decide +kernel) rfl rfl rfl ?_
      refine zz_iload_n (q := 5) (f := 1) (i := 1) C (by decide +kernel) rfl rfl rfl ?_
      refine zz_iload_n (q := 6) (f := 2) (i := 2) C (by decide +kernel) rfl rfl rfl ?_
      refine zz_iload_n (q := 7) (f := 3) (i := 3) C (by decide +kernel) rfl rfl rfl ?_
      refine zz_iload (q := 9) (i := 4) C (by decide +kernel) rfl rfl ?_
      refine zz_callVC C hcl (zz_MetX_up (x_T_path l hl)) cv_W_24 (by decide +kernel) rfl rfl (by first | rfl | assumption) (by decide) (by decide) (Nat.le_of_ble_eq_true rfl) ⟨_, hB, fun X h' hp => ?_⟩
      obtain ⟨rfl, hp⟩ := hp
      refine Or.inl ⟨0, 21, 24, 13, _, rfl, by decide, by decide, by decide, kl_W_13, 26, Or.inl ⟨6, by decide, by decide +kernel, rfl⟩, ?_⟩
      refine zz_iconst (q := 27) (n := 1) (x := 1) C (by decide +kernel) rfl (by decide +kernel) ?_
      refine zz_iret C hr hlk (by decide +kernel) hQ (by decide) (by decide) ?_
      exact hp
theorem cw_W_87 : zz_CW "SegmentTreesLaw" 87 y_W_work c_W_work 4 (some (.int)) [(0, 6, 9, 13)] 3 := ⟨zz_in (i := 487) (by decide +kernel) (by decide +kernel), zz_in (i := 488) (by decide +kernel) (by decide +kernel), zz_in (i := 34) (by decide +kernel) (by decide +kernel), zz_in (i := 489) (by decide +kernel) (by decide +kernel), by decide, by decide, by decide +kernel⟩
def T_W_work : zz_Tr := fun as h post => ∃ x p1 p2, as = [zz_r 0 (some x), zz_i p1, zz_i p2] ∧ (B_T_work [zz_r 0 (some x), zz_i p1, zz_i p2] h (fun v h' => v = none ∧ post (some (zz_i 0)) h') (fun _ _ => False) ∨ B_T_work [zz_r 0 (some x), zz_i p1, zz_i p2] h (fun _ _ => False) (fun X h' => (X = xx_IA ∧ post (some (zz_i 1)) h')))
set_option maxRecDepth 100000 in
set_option maxHeartbeats 4000000 in
theorem m_W_work (l : Launch) (hl : l.stackTraces = false) : zz_MetL l y_W_work (Cond.codeWith y_W_work c_W_work 4 (some (.int)) [(0, 6, 9, 13)] :: zz_all) { frames := 7, cells := 1, slots := 6, locals := 112 } T_W_work := by
  refine zz_ofL hl (by decide) (fun as h post hT => ?_) ?_
  · obtain ⟨x, p1, p2, rfl, hB⟩ := hT
    exact ⟨by simp [zz_cat], by simp⟩
  · intro D DA h as post hT p e s m args below meth c Q C hcl hr hlk hQ
    obtain ⟨x, p1, p2, rfl, hB⟩ := hT
    rcases hB with hB | hB
    · refine zz_aload_n (q := 1) (f := 0) (i := 0) C (by decide +kernel) rfl rfl rfl ?_
      refine zz_iload_n (q := 2) (f := 1) (i := 1) C (by decide +kernel) rfl rfl rfl ?_
      refine zz_iload_n (q := 3) (f := 2) (i := 2) C (by decide +kernel) rfl rfl rfl ?_
      refine zz_callV (q := 6) C (zz_Met_up (m_T_work l)) cv_W_28 (by decide +kernel) rfl rfl rfl (by first | rfl | assumption) (by decide) (by decide) (Nat.le_of_ble_eq_true rfl) ?_
      refine ⟨_, hB, fun v h' hp => ?_⟩
      obtain ⟨rfl, hp⟩ := hp
      refine zz_goto (off := 6) (tgt := 12) C (by decide +kernel) (by decide) ?_
      refine zz_iconst (q := 13) (n := 0) (x := 0) C (by decide +kernel) rfl (by decide +kernel) ?_
      refine zz_iret C hr hlk (by decide +kernel) hQ (by decide) (by decide) ?_
      exact hp
    · refine zz_aload_n (q := 1) (f := 0) (i := 0) C (by decide +kernel) rfl rfl rfl ?_
      refine zz_iload_n (q := 2) (f := 1) (i := 1) C (by decide +kernel) rfl rfl rfl ?_
      refine zz_iload_n (q := 3) (f := 2) (i := 2) C (by decide +kernel) rfl rfl rfl ?_
      refine zz_callVC C hcl (zz_MetX_up (x_T_work l hl)) cv_W_28 (by decide +kernel) rfl rfl (by first | rfl | assumption) (by decide) (by decide) (Nat.le_of_ble_eq_true rfl) ⟨_, hB, fun X h' hp => ?_⟩
      obtain ⟨rfl, hp⟩ := hp
      refine Or.inl ⟨0, 6, 9, 13, _, rfl, by decide, by decide, by decide, kl_W_13, 10, Or.inr ⟨3, by decide, by decide +kernel, rfl⟩, ?_⟩
      refine zz_iconst (q := 11) (n := 1) (x := 1) C (by decide +kernel) rfl (by decide +kernel) ?_
      refine zz_iret C hr hlk (by decide +kernel) hQ (by decide) (by decide) ?_
      exact hp
theorem cw_W_98 : zz_CW "SegmentTreesLaw" 98 y_W_within c_W_within 4 (some (.int)) [(0, 9, 12, 15)] 3 := ⟨zz_in (i := 495) (by decide +kernel) (by decide +kernel), zz_in (i := 496) (by decide +kernel) (by decide +kernel), zz_in (i := 34) (by decide +kernel) (by decide +kernel), zz_in (i := 497) (by decide +kernel) (by decide +kernel), by decide, by decide, by decide +kernel⟩
def T_W_within : zz_Tr := fun as h post => ∃ x p1 u, as = [zz_r 0 (some x), zz_i p1, zz_r 92 (some u)] ∧ (B_T_within [zz_r 0 (some x), zz_i p1] h (fun v h' => ∃ a : Int32, v = some (zz_i a) ∧ zz_tg h' u = some (92, 1) ∧ post (some (zz_i 0)) (zz_sL h' u 0 a.toInt64)) (fun _ _ => False) ∨ B_T_within [zz_r 0 (some x), zz_i p1] h (fun _ _ => False) (fun X h' => (X = xx_IS ∧ post (some (zz_i 1)) h')))
set_option maxRecDepth 100000 in
set_option maxHeartbeats 4000000 in
theorem m_W_within (l : Launch) (hl : l.stackTraces = false) : zz_MetL l y_W_within (Cond.codeWith y_W_within c_W_within 4 (some (.int)) [(0, 9, 12, 15)] :: zz_all) { frames := 7, cells := 1, slots := 6, locals := 147 } T_W_within := by
  refine zz_ofL hl (by decide) (fun as h post hT => ?_) ?_
  · obtain ⟨x, p1, u, rfl, hB⟩ := hT
    exact ⟨by simp [zz_cat], by simp⟩
  · intro D DA h as post hT p e s m args below meth c Q C hcl hr hlk hQ
    obtain ⟨x, p1, u, rfl, hB⟩ := hT
    rcases hB with hB | hB
    · refine zz_aload_n (q := 1) (f := 2) (i := 2) C (by decide +kernel) rfl rfl rfl ?_
      refine zz_iconst (q := 2) (n := 0) (x := 0) C (by decide +kernel) rfl (by decide +kernel) ?_
      refine zz_aload_n (q := 3) (f := 0) (i := 0) C (by decide +kernel) rfl rfl rfl ?_
      refine zz_iload_n (q := 4) (f := 1) (i := 1) C (by decide +kernel) rfl rfl rfl ?_
      refine zz_callV (q := 7) C (zz_Met_up (m_T_within l)) cv_W_31 (by decide +kernel) rfl rfl rfl (by first | rfl | assumption) (by decide) (by decide) (Nat.le_of_ble_eq_true rfl) ?_
      refine ⟨_, hB, fun v h' hp => ?_⟩
      obtain ⟨a9, rfl, hu, hp⟩ := hp
      refine zz_i2l (q := 8) C (by decide +kernel) rfl rfl ?_
      refine zz_lastore (q := 9) C (by decide +kernel) rfl rfl hu rfl (by decide) (by decide) ?_
      refine zz_goto (off := 6) (tgt := 15) C (by decide +kernel) (by decide) ?_
      refine zz_iconst (q := 16) (n := 0) (x := 0) C (by decide +kernel) rfl (by decide +kernel) ?_
      refine zz_iret C hr hlk (by decide +kernel) hQ (by decide) (by decide) ?_
      exact hp
    · refine zz_aload_n (q := 1) (f := 2) (i := 2) C (by decide +kernel) rfl rfl rfl ?_
      refine zz_iconst (q := 2) (n := 0) (x := 0) C (by decide +kernel) rfl (by decide +kernel) ?_
      refine zz_aload_n (q := 3) (f := 0) (i := 0) C (by decide +kernel) rfl rfl rfl ?_
      refine zz_iload_n (q := 4) (f := 1) (i := 1) C (by decide +kernel) rfl rfl rfl ?_
      refine zz_callVC C hcl (zz_MetX_up (x_T_within l hl)) cv_W_31 (by decide +kernel) rfl rfl (by first | rfl | assumption) (by decide) (by decide) (Nat.le_of_ble_eq_true rfl) ⟨_, hB, fun X h' hp => ?_⟩
      obtain ⟨rfl, hp⟩ := hp
      refine Or.inl ⟨0, 9, 12, 15, _, rfl, by decide, by decide, by decide, kl_W_15, 13, Or.inr ⟨3, by decide, by decide +kernel, rfl⟩, ?_⟩
      refine zz_iconst (q := 14) (n := 1) (x := 1) C (by decide +kernel) rfl (by decide +kernel) ?_
      refine zz_iret C hr hlk (by decide +kernel) hQ (by decide) (by decide) ?_
      exact hp
theorem cw_W_102 : zz_CW "SegmentTreesLaw" 102 y_W_fix c_W_fix 3 (some (.int)) [(0, 8, 11, 15)] 2 := ⟨zz_in (i := 503) (by decide +kernel) (by decide +kernel), zz_in (i := 504) (by decide +kernel) (by decide +kernel), zz_in (i := 34) (by decide +kernel) (by decide +kernel), zz_in (i := 505) (by decide +kernel) (by decide +kernel), by decide, by decide, by decide +kernel⟩
def T_W_fix : zz_Tr := fun as h post => ∃ x u, as = [zz_r 0 (some x), zz_r 92 (some u)] ∧ (B_T_fix [zz_r 0 (some x)] h (fun v h' => ∃ a : Int32, v = some (zz_i a) ∧ zz_tg h' u = some (92, 1) ∧ post (some (zz_i 0)) (zz_sL h' u 0 a.toInt64)) (fun _ _ => False) ∨ B_T_fix [zz_r 0 (some x)] h (fun _ _ => False) (fun X h' => (X = xx_IS ∧ post (some (zz_i 1)) h')))
set_option maxRecDepth 100000 in
set_option maxHeartbeats 4000000 in
theorem m_W_fix (l : Launch) (hl : l.stackTraces = false) : zz_MetL l y_W_fix (Cond.codeWith y_W_fix c_W_fix 3 (some (.int)) [(0, 8, 11, 15)] :: zz_all) { frames := 7, cells := 1, slots := 6, locals := 111 } T_W_fix := by
  refine zz_ofL hl (by decide) (fun as h post hT => ?_) ?_
  · obtain ⟨x, u, rfl, hB⟩ := hT
    exact ⟨by simp [zz_cat], by simp⟩
  · intro D DA h as post hT p e s m args below meth c Q C hcl hr hlk hQ
    obtain ⟨x, u, rfl, hB⟩ := hT
    rcases hB with hB | hB
    · refine zz_aload_n (q := 1) (f := 1) (i := 1) C (by decide +kernel) rfl rfl rfl ?_
      refine zz_iconst (q := 2) (n := 0) (x := 0) C (by decide +kernel) rfl (by decide +kernel) ?_
      refine zz_aload_n (q := 3) (f := 0) (i := 0) C (by decide +kernel) rfl rfl rfl ?_
      refine zz_callV (q := 6) C (zz_Met_up (m_T_fix l)) cv_W_35 (by decide +kernel) rfl rfl rfl (by first | rfl | assumption) (by decide) (by decide) (Nat.le_of_ble_eq_true rfl) ?_
      refine ⟨_, hB, fun v h' hp => ?_⟩
      obtain ⟨a9, rfl, hu, hp⟩ := hp
      refine zz_i2l (q := 7) C (by decide +kernel) rfl rfl ?_
      refine zz_lastore (q := 8) C (by decide +kernel) rfl rfl hu rfl (by decide) (by decide) ?_
      refine zz_goto (off := 6) (tgt := 14) C (by decide +kernel) (by decide) ?_
      refine zz_iconst (q := 15) (n := 0) (x := 0) C (by decide +kernel) rfl (by decide +kernel) ?_
      refine zz_iret C hr hlk (by decide +kernel) hQ (by decide) (by decide) ?_
      exact hp
    · refine zz_aload_n (q := 1) (f := 1) (i := 1) C (by decide +kernel) rfl rfl rfl ?_
      refine zz_iconst (q := 2) (n := 0) (x := 0) C (by decide +kernel) rfl (by decide +kernel) ?_
      refine zz_aload_n (q := 3) (f := 0) (i := 0) C (by decide +kernel) rfl rfl rfl ?_
      refine zz_callVC C hcl (zz_MetX_up (x_T_fix l hl)) cv_W_35 (by decide +kernel) rfl rfl (by first | rfl | assumption) (by decide) (by decide) (Nat.le_of_ble_eq_true rfl) ⟨_, hB, fun X h' hp => ?_⟩
      obtain ⟨rfl, hp⟩ := hp
      refine Or.inl ⟨0, 8, 11, 15, _, rfl, by decide, by decide, by decide, kl_W_15, 12, Or.inr ⟨2, by decide, by decide +kernel, rfl⟩, ?_⟩
      refine zz_iconst (q := 13) (n := 1) (x := 1) C (by decide +kernel) rfl (by decide +kernel) ?_
      refine zz_iret C hr hlk (by decide +kernel) hQ (by decide) (by decide) ?_
      exact hp
theorem cw_W_114 : zz_CW "SegmentTreesLaw" 114 y_W_word c_W_word 4 (some (.int)) [(0, 9, 12, 15), (0, 9, 15, 43)] 3 := ⟨zz_in (i := 511) (by decide +kernel) (by decide +kernel), zz_in (i := 512) (by decide +kernel) (by decide +kernel), zz_in (i := 34) (by decide +kernel) (by decide +kernel), zz_in (i := 513) (by decide +kernel) (by decide +kernel), by decide, by decide, by decide +kernel⟩
def T_W_word : zz_Tr := fun as h post => ∃ x p1 u, as = [zz_r 0 (some x), zz_i p1, zz_r 92 (some u)] ∧ (B_T_word [zz_r 0 (some x), zz_i p1] h (fun v h' => ∃ a : Int32, v = some (zz_i a) ∧ zz_tg h' u = some (92, 1) ∧ post (some (zz_i 0)) (zz_sL h' u 0 a.toInt64)) (fun _ _ => False) ∨ B_T_word [zz_r 0 (some x), zz_i p1] h (fun _ _ => False) (fun X h' => (X = xx_IS ∧ post (some (zz_i 1)) h') ∨ (X = xx_IB ∧ post (some (zz_i 2)) h')))
set_option maxRecDepth 100000 in
set_option maxHeartbeats 4000000 in
theorem m_W_word (l : Launch) (hl : l.stackTraces = false) : zz_MetL l y_W_word (Cond.codeWith y_W_word c_W_word 4 (some (.int)) [(0, 9, 12, 15), (0, 9, 15, 43)] :: zz_all) { frames := 7, cells := 1, slots := 6, locals := 112 } T_W_word := by
  refine zz_ofL hl (by decide) (fun as h post hT => ?_) ?_
  · obtain ⟨x, p1, u, rfl, hB⟩ := hT
    exact ⟨by simp [zz_cat], by simp⟩
  · intro D DA h as post hT p e s m args below meth c Q C hcl hr hlk hQ
    obtain ⟨x, p1, u, rfl, hB⟩ := hT
    rcases hB with hB | hB
    · refine zz_aload_n (q := 1) (f := 2) (i := 2) C (by decide +kernel) rfl rfl rfl ?_
      refine zz_iconst (q := 2) (n := 0) (x := 0) C (by decide +kernel) rfl (by decide +kernel) ?_
      refine zz_aload_n (q := 3) (f := 0) (i := 0) C (by decide +kernel) rfl rfl rfl ?_
      refine zz_iload_n (q := 4) (f := 1) (i := 1) C (by decide +kernel) rfl rfl rfl ?_
      refine zz_callV (q := 7) C (zz_Met_up (m_T_word l)) cv_W_39 (by decide +kernel) rfl rfl rfl (by first | rfl | assumption) (by decide) (by decide) (Nat.le_of_ble_eq_true rfl) ?_
      refine ⟨_, hB, fun v h' hp => ?_⟩
      obtain ⟨a9, rfl, hu, hp⟩ := hp
      refine zz_i2l (q := 8) C (by decide +kernel) rfl rfl ?_
      refine zz_lastore (q := 9) C (by decide +kernel) rfl rfl hu rfl (by decide) (by decide) ?_
      refine zz_goto (off := 9) (tgt := 18) C (by decide +kernel) (by decide) ?_
      refine zz_iconst (q := 19) (n := 0) (x := 0) C (by decide +kernel) rfl (by decide +kernel) ?_
      refine zz_iret C hr hlk (by decide +kernel) hQ (by decide) (by decide) ?_
      exact hp
    · refine zz_aload_n (q := 1) (f := 2) (i := 2) C (by decide +kernel) rfl rfl rfl ?_
      refine zz_iconst (q := 2) (n := 0) (x := 0) C (by decide +kernel) rfl (by decide +kernel) ?_
      refine zz_aload_n (q := 3) (f := 0) (i := 0) C (by decide +kernel) rfl rfl rfl ?_
      refine zz_iload_n (q := 4) (f := 1) (i := 1) C (by decide +kernel) rfl rfl rfl ?_
      refine zz_callVC C hcl (zz_MetX_up (x_T_word l hl)) cv_W_39 (by decide +kernel) rfl rfl (by first | rfl | assumption) (by decide) (by decide) (Nat.le_of_ble_eq_true rfl) ⟨_, hB, fun X h' hp => ?_⟩
      rcases hp with ⟨rfl, hp⟩ | ⟨rfl, hp⟩
      · refine Or.inl ⟨0, 9, 12, 15, _, rfl, by decide, by decide, by decide, kl_W_15, 13, Or.inr ⟨3, by decide, by decide +kernel, rfl⟩, ?_⟩
        refine zz_iconst (q := 14) (n := 1) (x := 1) C (by decide +kernel) rfl (by decide +kernel) ?_
        refine zz_iret C hr hlk (by decide +kernel) hQ (by decide) (by decide) ?_
        exact hp
      · refine Or.inr ⟨0, 9, 12, 15, xx_IS, 0, 9, 15, 43, _, rfl, by decide, kl_W_15, Or.inr ⟨rfl, rfl⟩, by decide, by decide, by decide, kl_W_43, 16, Or.inr ⟨3, by decide, by decide +kernel, rfl⟩, ?_⟩
        refine zz_iconst (q := 17) (n := 2) (x := 2) C (by decide +kernel) rfl (by decide +kernel) ?_
        refine zz_iret C hr hlk (by decide +kernel) hQ (by decide) (by decide) ?_
        exact hp
theorem cw_W_118 : zz_CW "SegmentTreesLaw" 118 y_W_insert c_W_insert 4 (some (.int)) [(0, 9, 12, 13)] 3 := ⟨zz_in (i := 535) (by decide +kernel) (by decide +kernel), zz_in (i := 536) (by decide +kernel) (by decide +kernel), zz_in (i := 34) (by decide +kernel) (by decide +kernel), zz_in (i := 537) (by decide +kernel) (by decide +kernel), by decide, by decide, by decide +kernel⟩
def T_W_insert : zz_Tr := fun as h post => ∃ x p1 u, as = [zz_r 0 (some x), zz_i p1, zz_r 92 (some u)] ∧ (B_T_insert [zz_r 0 (some x), zz_i p1] h (fun v h' => ∃ a : Int32, v = some (zz_i a) ∧ zz_tg h' u = some (92, 1) ∧ post (some (zz_i 0)) (zz_sL h' u 0 a.toInt64)) (fun _ _ => False) ∨ B_T_insert [zz_r 0 (some x), zz_i p1] h (fun _ _ => False) (fun X h' => (X = xx_IA ∧ post (some (zz_i 1)) h')))
set_option maxRecDepth 100000 in
set_option maxHeartbeats 4000000 in
theorem m_W_insert (l : Launch) (hl : l.stackTraces = false) : zz_MetL l y_W_insert (Cond.codeWith y_W_insert c_W_insert 4 (some (.int)) [(0, 9, 12, 13)] :: zz_all) { frames := 8, cells := 3, slots := 17, locals := 172 } T_W_insert := by
  refine zz_ofL hl (by decide) (fun as h post hT => ?_) ?_
  · obtain ⟨x, p1, u, rfl, hB⟩ := hT
    exact ⟨by simp [zz_cat], by simp⟩
  · intro D DA h as post hT p e s m args below meth c Q C hcl hr hlk hQ
    obtain ⟨x, p1, u, rfl, hB⟩ := hT
    rcases hB with hB | hB
    · refine zz_aload_n (q := 1) (f := 2) (i := 2) C (by decide +kernel) rfl rfl rfl ?_
      refine zz_iconst (q := 2) (n := 0) (x := 0) C (by decide +kernel) rfl (by decide +kernel) ?_
      refine zz_aload_n (q := 3) (f := 0) (i := 0) C (by decide +kernel) rfl rfl rfl ?_
      refine zz_iload_n (q := 4) (f := 1) (i := 1) C (by decide +kernel) rfl rfl rfl ?_
      refine zz_callV (q := 7) C (zz_Met_up (m_T_insert l)) cv_W_45 (by decide +kernel) rfl rfl rfl (by first | rfl | assumption) (by decide) (by decide) (Nat.le_of_ble_eq_true rfl) ?_
      refine ⟨_, hB, fun v h' hp => ?_⟩
      obtain ⟨a9, rfl, hu, hp⟩ := hp
      refine zz_i2l (q := 8) C (by decide +kernel) rfl rfl ?_
      refine zz_lastore (q := 9) C (by decide +kernel) rfl rfl hu rfl (by decide) (by decide) ?_
      refine zz_goto (off := 6) (tgt := 15) C (by decide +kernel) (by decide) ?_
      refine zz_iconst (q := 16) (n := 0) (x := 0) C (by decide +kernel) rfl (by decide +kernel) ?_
      refine zz_iret C hr hlk (by decide +kernel) hQ (by decide) (by decide) ?_
      exact hp
    · refine zz_aload_n (q := 1) (f := 2) (i := 2) C (by decide +kernel) rfl rfl rfl ?_
      refine zz_iconst (q := 2) (n := 0) (x := 0) C (by decide +kernel) rfl (by decide +kernel) ?_
      refine zz_aload_n (q := 3) (f := 0) (i := 0) C (by decide +kernel) rfl rfl rfl ?_
      refine zz_iload_n (q := 4) (f := 1) (i := 1) C (by decide +kernel) rfl rfl rfl ?_
      refine zz_callVC C hcl (zz_MetX_up (x_T_insert l hl)) cv_W_45 (by decide +kernel) rfl rfl (by first | rfl | assumption) (by decide) (by decide) (Nat.le_of_ble_eq_true rfl) ⟨_, hB, fun X h' hp => ?_⟩
      obtain ⟨rfl, hp⟩ := hp
      refine Or.inl ⟨0, 9, 12, 13, _, rfl, by decide, by decide, by decide, kl_W_13, 13, Or.inr ⟨3, by decide, by decide +kernel, rfl⟩, ?_⟩
      refine zz_iconst (q := 14) (n := 1) (x := 1) C (by decide +kernel) rfl (by decide +kernel) ?_
      refine zz_iret C hr hlk (by decide +kernel) hQ (by decide) (by decide) ?_
      exact hp
theorem cw_W_121 : zz_CW "SegmentTreesLaw" 121 y_W_replace c_W_replace 3 (some (.int)) [(0, 15, 18, 15)] 2 := ⟨zz_in (i := 662) (by decide +kernel) (by decide +kernel), zz_in (i := 663) (by decide +kernel) (by decide +kernel), zz_in (i := 34) (by decide +kernel) (by decide +kernel), zz_in (i := 664) (by decide +kernel) (by decide +kernel), by decide, by decide, by decide +kernel⟩
def T_W_replace : zz_Tr := fun as h post => ∃ x u, as = [zz_r 0 (some x), zz_r 92 (some u)] ∧ (B_T_replace [zz_r 0 (some x)] h (fun v h' => ∃ a : Int32, v = some (zz_i a) ∧ (a = 0 ∨ a = 1) ∧ zz_tg h' u = some (92, 1) ∧ post (some (zz_i 0)) (zz_sL h' u 0 (if a = 0 then 0 else 1))) (fun _ _ => False) ∨ B_T_replace [zz_r 0 (some x)] h (fun _ _ => False) (fun X h' => (X = xx_IS ∧ post (some (zz_i 1)) h')))
set_option maxRecDepth 100000 in
set_option maxHeartbeats 4000000 in
theorem m_W_replace (l : Launch) (hl : l.stackTraces = false) : zz_MetL l y_W_replace (Cond.codeWith y_W_replace c_W_replace 3 (some (.int)) [(0, 15, 18, 15)] :: zz_all) { frames := 7, cells := 1, slots := 6, locals := 146 } T_W_replace := by
  refine zz_ofL hl (by decide) (fun as h post hT => ?_) ?_
  · obtain ⟨x, u, rfl, hB⟩ := hT
    exact ⟨by simp [zz_cat], by simp⟩
  · intro D DA h as post hT p e s m args below meth c Q C hcl hr hlk hQ
    obtain ⟨x, u, rfl, hB⟩ := hT
    rcases hB with hB | hB
    · refine zz_aload_n (q := 1) (f := 1) (i := 1) C (by decide +kernel) rfl rfl rfl ?_
      refine zz_iconst (q := 2) (n := 0) (x := 0) C (by decide +kernel) rfl (by decide +kernel) ?_
      refine zz_aload_n (q := 3) (f := 0) (i := 0) C (by decide +kernel) rfl rfl rfl ?_
      refine zz_callV (q := 6) C (zz_Met_up (m_T_replace l)) cv_W_48 (by decide +kernel) rfl rfl rfl (by first | rfl | assumption) (by decide) (by decide) (Nat.le_of_ble_eq_true rfl) ?_
      refine ⟨_, hB, fun v h' hp => ?_⟩
      obtain ⟨a9, rfl, ha9, hu, hp⟩ := hp
      refine zz_if_eq (off := 7) (tgt := 13) (q := 9) C (by decide +kernel) (by decide) rfl (fun c6 => ?_) (fun c6 => ?_)
      · refine zz_lconst (q := 14) (n := 0) (x := 0) C (by decide +kernel) rfl (by decide +kernel) ?_
        refine zz_lastore (q := 15) C (by decide +kernel) rfl rfl hu rfl (by decide) (by decide) ?_
        refine zz_goto (off := 6) (tgt := 21) C (by decide +kernel) (by decide) ?_
        refine zz_iconst (q := 22) (n := 0) (x := 0) C (by decide +kernel) rfl (by decide +kernel) ?_
        refine zz_iret C hr hlk (by decide +kernel) hQ (by decide) (by decide) ?_
        first
          | (rw [if_pos c6] at hp; exact hp)
          | (rw [if_neg c6] at hp; exact hp)
      · refine zz_lconst (q := 10) (n := 1) (x := 1) C (by decide +kernel) rfl (by decide +kernel) ?_
        refine zz_goto (off := 4) (tgt := 14) C (by decide +kernel) (by decide) ?_
        refine zz_lastore (q := 15) C (by decide +kernel) rfl rfl hu rfl (by decide) (by decide) ?_
        refine zz_goto (off := 6) (tgt := 21) C (by decide +kernel) (by decide) ?_
        refine zz_iconst (q := 22) (n := 0) (x := 0) C (by decide +kernel) rfl (by decide +kernel) ?_
        refine zz_iret C hr hlk (by decide +kernel) hQ (by decide) (by decide) ?_
        first
          | (rw [if_pos c6] at hp; exact hp)
          | (rw [if_neg c6] at hp; exact hp)
    · refine zz_aload_n (q := 1) (f := 1) (i := 1) C (by decide +kernel) rfl rfl rfl ?_
      refine zz_iconst (q := 2) (n := 0) (x := 0) C (by decide +kernel) rfl (by decide +kernel) ?_
      refine zz_aload_n (q := 3) (f := 0) (i := 0) C (by decide +kernel) rfl rfl rfl ?_
      refine zz_callVC C hcl (zz_MetX_up (x_T_replace l hl)) cv_W_48 (by decide +kernel) rfl rfl (by first | rfl | assumption) (by decide) (by decide) (Nat.le_of_ble_eq_true rfl) ⟨_, hB, fun X h' hp => ?_⟩
      obtain ⟨rfl, hp⟩ := hp
      refine Or.inl ⟨0, 15, 18, 15, _, rfl, by decide, by decide, by decide, kl_W_15, 19, Or.inr ⟨2, by decide, by decide +kernel, rfl⟩, ?_⟩
      refine zz_iconst (q := 20) (n := 1) (x := 1) C (by decide +kernel) rfl (by decide +kernel) ?_
      refine zz_iret C hr hlk (by decide +kernel) hQ (by decide) (by decide) ?_
      exact hp
theorem cw_W_124 : zz_CW "SegmentTreesLaw" 124 y_W_delete c_W_delete 3 (some (.int)) [(0, 8, 11, 15)] 2 := ⟨zz_in (i := 672) (by decide +kernel) (by decide +kernel), zz_in (i := 673) (by decide +kernel) (by decide +kernel), zz_in (i := 34) (by decide +kernel) (by decide +kernel), zz_in (i := 674) (by decide +kernel) (by decide +kernel), by decide, by decide, by decide +kernel⟩
def T_W_delete : zz_Tr := fun as h post => ∃ x u, as = [zz_r 0 (some x), zz_r 92 (some u)] ∧ (B_T_delete [zz_r 0 (some x)] h (fun v h' => ∃ a : Int32, v = some (zz_i a) ∧ zz_tg h' u = some (92, 1) ∧ post (some (zz_i 0)) (zz_sL h' u 0 a.toInt64)) (fun _ _ => False) ∨ B_T_delete [zz_r 0 (some x)] h (fun _ _ => False) (fun X h' => (X = xx_IS ∧ post (some (zz_i 1)) h')))
set_option maxRecDepth 100000 in
set_option maxHeartbeats 4000000 in
theorem m_W_delete (l : Launch) (hl : l.stackTraces = false) : zz_MetL l y_W_delete (Cond.codeWith y_W_delete c_W_delete 3 (some (.int)) [(0, 8, 11, 15)] :: zz_all) { frames := 8, cells := 1, slots := 6, locals := 172 } T_W_delete := by
  refine zz_ofL hl (by decide) (fun as h post hT => ?_) ?_
  · obtain ⟨x, u, rfl, hB⟩ := hT
    exact ⟨by simp [zz_cat], by simp⟩
  · intro D DA h as post hT p e s m args below meth c Q C hcl hr hlk hQ
    obtain ⟨x, u, rfl, hB⟩ := hT
    rcases hB with hB | hB
    · refine zz_aload_n (q := 1) (f := 1) (i := 1) C (by decide +kernel) rfl rfl rfl ?_
      refine zz_iconst (q := 2) (n := 0) (x := 0) C (by decide +kernel) rfl (by decide +kernel) ?_
      refine zz_aload_n (q := 3) (f := 0) (i := 0) C (by decide +kernel) rfl rfl rfl ?_
      refine zz_callV (q := 6) C (zz_Met_up (m_T_delete l)) cv_W_52 (by decide +kernel) rfl rfl rfl (by first | rfl | assumption) (by decide) (by decide) (Nat.le_of_ble_eq_true rfl) ?_
      refine ⟨_, hB, fun v h' hp => ?_⟩
      obtain ⟨a9, rfl, hu, hp⟩ := hp
      refine zz_i2l (q := 7) C (by decide +kernel) rfl rfl ?_
      refine zz_lastore (q := 8) C (by decide +kernel) rfl rfl hu rfl (by decide) (by decide) ?_
      refine zz_goto (off := 6) (tgt := 14) C (by decide +kernel) (by decide) ?_
      refine zz_iconst (q := 15) (n := 0) (x := 0) C (by decide +kernel) rfl (by decide +kernel) ?_
      refine zz_iret C hr hlk (by decide +kernel) hQ (by decide) (by decide) ?_
      exact hp
    · refine zz_aload_n (q := 1) (f := 1) (i := 1) C (by decide +kernel) rfl rfl rfl ?_
      refine zz_iconst (q := 2) (n := 0) (x := 0) C (by decide +kernel) rfl (by decide +kernel) ?_
      refine zz_aload_n (q := 3) (f := 0) (i := 0) C (by decide +kernel) rfl rfl rfl ?_
      refine zz_callVC C hcl (zz_MetX_up (x_T_delete l hl)) cv_W_52 (by decide +kernel) rfl rfl (by first | rfl | assumption) (by decide) (by decide) (Nat.le_of_ble_eq_true rfl) ⟨_, hB, fun X h' hp => ?_⟩
      obtain ⟨rfl, hp⟩ := hp
      refine Or.inl ⟨0, 8, 11, 15, _, rfl, by decide, by decide, by decide, kl_W_15, 12, Or.inr ⟨2, by decide, by decide +kernel, rfl⟩, ?_⟩
      refine zz_iconst (q := 13) (n := 1) (x := 1) C (by decide +kernel) rfl (by decide +kernel) ?_
      refine zz_iret C hr hlk (by decide +kernel) hQ (by decide) (by decide) ?_
      exact hp
theorem cw_W_127 : zz_CW "SegmentTreesLaw" 127 y_W_bySecond c_W_bySecond 3 (some (.int)) [(0, 5, 8, 15)] 2 := ⟨zz_in (i := 693) (by decide +kernel) (by decide +kernel), zz_in (i := 694) (by decide +kernel) (by decide +kernel), zz_in (i := 34) (by decide +kernel) (by decide +kernel), zz_in (i := 695) (by decide +kernel) (by decide +kernel), by decide, by decide, by decide +kernel⟩
def T_W_bySecond : zz_Tr := fun as h post => ∃ x p1, as = [zz_r 0 (some x), zz_i p1] ∧ (B_T_bySecond [zz_r 0 (some x), zz_i p1] h (fun v h' => v = none ∧ post (some (zz_i 0)) h') (fun _ _ => False) ∨ B_T_bySecond [zz_r 0 (some x), zz_i p1] h (fun _ _ => False) (fun X h' => (X = xx_IS ∧ post (some (zz_i 1)) h')))
set_option maxRecDepth 100000 in
set_option maxHeartbeats 4000000 in
theorem m_W_bySecond (l : Launch) (hl : l.stackTraces = false) : zz_MetL l y_W_bySecond (Cond.codeWith y_W_bySecond c_W_bySecond 3 (some (.int)) [(0, 5, 8, 15)] :: zz_all) { frames := 8, cells := 1, slots := 6, locals := 167 } T_W_bySecond := by
  refine zz_ofL hl (by decide) (fun as h post hT => ?_) ?_
  · obtain ⟨x, p1, rfl, hB⟩ := hT
    exact ⟨by simp [zz_cat], by simp⟩
  · intro D DA h as post hT p e s m args below meth c Q C hcl hr hlk hQ
    obtain ⟨x, p1, rfl, hB⟩ := hT
    rcases hB with hB | hB
    · refine zz_aload_n (q := 1) (f := 0) (i := 0) C (by decide +kernel) rfl rfl rfl ?_
      refine zz_iload_n (q := 2) (f := 1) (i := 1) C (by decide +kernel) rfl rfl rfl ?_
      refine zz_callV (q := 5) C (zz_Met_up (m_T_bySecond l)) cv_W_55 (by decide +kernel) rfl rfl rfl (by first | rfl | assumption) (by decide) (by decide) (Nat.le_of_ble_eq_true rfl) ?_
      refine ⟨_, hB, fun v h' hp => ?_⟩
      obtain ⟨rfl, hp⟩ := hp
      refine zz_goto (off := 6) (tgt := 11) C (by decide +kernel) (by decide) ?_
      refine zz_iconst (q := 12) (n := 0) (x := 0) C (by decide +kernel) rfl (by decide +kernel) ?_
      refine zz_iret C hr hlk (by decide +kernel) hQ (by decide) (by decide) ?_
      exact hp
    · refine zz_aload_n (q := 1) (f := 0) (i := 0) C (by decide +kernel) rfl rfl rfl ?_
      refine zz_iload_n (q := 2) (f := 1) (i := 1) C (by decide +kernel) rfl rfl rfl ?_
      refine zz_callVC C hcl (zz_MetX_up (x_T_bySecond l hl)) cv_W_55 (by decide +kernel) rfl rfl (by first | rfl | assumption) (by decide) (by decide) (Nat.le_of_ble_eq_true rfl) ⟨_, hB, fun X h' hp => ?_⟩
      obtain ⟨rfl, hp⟩ := hp
      refine Or.inl ⟨0, 5, 8, 15, _, rfl, by decide, by decide, by decide, kl_W_15, 9, Or.inr ⟨2, by decide, by decide +kernel, rfl⟩, ?_⟩
      refine zz_iconst (q := 10) (n := 1) (x := 1) C (by decide +kernel) rfl (by decide +kernel) ?_
      refine zz_iret C hr hlk (by decide +kernel) hQ (by decide) (by decide) ?_
      exact hp
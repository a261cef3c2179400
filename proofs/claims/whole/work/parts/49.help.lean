/-! SegmentTrees: helpers -/
def t_kd (h : zz_H) (a : Nat) : Nat := (zz_fR h 0 0 a).getD 0
def t_ww (h : zz_H) (a : Nat) : Nat := (zz_fR h 0 1 a).getD 0
def t_pa (h : zz_H) (a : Nat) : Nat := (zz_fR h 0 2 a).getD 0
def t_od (h : zz_H) (a : Nat) : Nat := (zz_fR h 0 3 a).getD 0
def t_ps (h : zz_H) (a : Nat) : Nat := (zz_fR h 0 4 a).getD 0
def t_ok (h : zz_H) (a : Nat) : Prop := zz_fR h 0 0 a = some (t_kd h a) ∧ zz_fR h 0 1 a = some (t_ww h a) ∧ zz_fR h 0 2 a = some (t_pa h a) ∧ zz_fR h 0 3 a = some (t_od h a) ∧ zz_fR h 0 4 a = some (t_ps h a) ∧ zz_tg h (t_kd h a) = some (101, 8) ∧ zz_tg h (t_ww h a) = some (90, 4)
def t_k (h : zz_H) (a : Nat) (t : Int32) : Option Nat := if 0 ≤ t ∧ t < 8 then zz_aR h (t_kd h a) t.toNatClampNeg else none
theorem nI_8 : (8 : Int32) = nI 8 := rfl
theorem nI_in9 {t b : Int32} {n : Nat} (hb : b = nI n) (hn : n < 2 ^ 31) (h0 : ¬ t < 0) (h8 : t < b) : t.toNatClampNeg < n ∧ t = nI t.toNatClampNeg := by
  obtain ⟨j, hj, rfl⟩ := nI_of h0
  rw [hb] at h8
  rw [nI_clamp hj]
  exact ⟨(nI_ltI hj hn).mp h8, rfl⟩
def t_gt (h : zz_H) (a s : Nat) (hd : Int32) : zz_H := if hd = 0 then zz_pI (zz_pI (zz_pR h 6 0 (t_ps h a) (some s)) 6 1 (t_ps h a) 1) 6 2 (t_ps h a) 0 else zz_pR (zz_pI (zz_pI (zz_pR h 6 0 (t_ps h a) (some s)) 6 1 (t_ps h a) 1) 6 2 (t_ps h a) 0) 0 5 a (some s)
def t_nb (h : zz_H) (s : Option Nat) : Int32 := match s with
  | none => 0
  | some x => zz_fI h 2 0 x
def t_wq (h : zz_H) (s : Nat) (w : Int32) : Int32 := if 10 ≤ w ∧ 0 ≤ w - 10 ∧ w - 10 < zz_fI h 1 3 (sg_k h s) then zz_aI h (sg_w h s) (w - 10).toNatClampNeg else -1
def t_jn (h : zz_H) (a f s : Nat) : zz_H := zz_pR (zz_pR (zz_uI h (sg_w h s) (fun j => if j < kd_ln h (sg_k h s) then zz_aI h (t_ww h a) j else zz_aI h (sg_w h s) j)) 2 4 s (some f)) 2 4 f (some s)
/-- nothing is held -/
def t_h0 (h : zz_H) (a : Nat) : zz_H := zz_pR h 0 5 a none
def T_T_kindOf : zz_Tr := fun as h post => ∃ a t, as = [zz_r 0 (some a), zz_i t] ∧ t_ok h a ∧ post (some (zz_r 1 (t_k h a t))) h
set_option maxRecDepth 100000 in
set_option maxHeartbeats 4000000 in
theorem m_T_kindOf (l : Launch) : zz_Met l y_T_kindOf w_T_kindOf { frames := 1, cells := 0, slots := 0, locals := 12 } T_T_kindOf := by
  refine zz_ofZ (by decide) (fun as h post hT => ?_) ?_
  · obtain ⟨a, t, rfl, hok, hp⟩ := hT
    exact ⟨by simp [zz_cat], by simp⟩
  · intro D DA h as post hT p e s m args below meth c Q C hr hlk hnm hQ
    obtain ⟨a, t, rfl, hok, hp⟩ := hT
    refine zz_iload_n (q := 1) (f := 1) (i := 1) C (by decide +kernel) rfl rfl rfl ?_
    refine zz_if_lt (off := 9) (tgt := 10) (q := 4) C (by decide +kernel) (by decide) rfl (fun c1 => ?_) (fun c1 => ?_)
    · refine zz_null (q := 11) C 1 (by decide +kernel) rfl ?_
      refine zz_goto (off := 9) (tgt := 20) C (by decide +kernel) (by decide) ?_
      refine zz_aret C hr (Or.inl ⟨_, rfl⟩) hlk (by decide +kernel) hQ (by decide) (by decide) ?_
      first
        | (rw [show t_k h a t = none from if_neg (fun z => absurd c1 (Int32.not_lt.mpr z.1))] at hp; exact hp)
        | (rw [show t_k h a t = zz_aR h (t_kd h a) t.toNatClampNeg from if_pos ⟨Int32.not_lt.mp c1, c7⟩] at hp; exact hp)
        | (rw [show t_k h a t = none from if_neg (fun z => absurd z.2 c7)] at hp; exact hp)
    · refine zz_iload_n (q := 5) (f := 1) (i := 1) C (by decide +kernel) rfl rfl rfl ?_
      refine zz_bipush (q := 7) (n := 8) (x := 8) C (by decide +kernel) rfl (by decide +kernel) ?_
      refine zz_icmp_lt (off := 7) (tgt := 14) (q := 10) C (by decide +kernel) (by decide) rfl (fun c7 => ?_) (fun c7 => ?_)
      · have h9 := nI_in9 nI_8 (by decide) c1 c7
        refine zz_aload_n (q := 15) (f := 0) (i := 0) C (by decide +kernel) rfl rfl rfl ?_
        refine zz_getR (q := 18) C gf_T_11 (by decide +kernel) rfl (by first | rfl | assumption) hok.1 ?_
        refine zz_iload_n (q := 19) (f := 1) (i := 1) C (by decide +kernel) rfl rfl rfl ?_
        refine zz_aaload (q := 20) C 3 rfl (by decide) (by decide +kernel) rfl rfl hok.2.2.2.2.2.1 h9.2 h9.1 (by decide) rfl ?_
        refine zz_aret C hr (Or.inl ⟨_, rfl⟩) hlk (by decide +kernel) hQ (by decide) (by decide) ?_
        first
          | (rw [show t_k h a t = none from if_neg (fun z => absurd c1 (Int32.not_lt.mpr z.1))] at hp; exact hp)
          | (rw [show t_k h a t = zz_aR h (t_kd h a) t.toNatClampNeg from if_pos ⟨Int32.not_lt.mp c1, c7⟩] at hp; exact hp)
          | (rw [show t_k h a t = none from if_neg (fun z => absurd z.2 c7)] at hp; exact hp)
      · refine zz_null (q := 11) C 1 (by decide +kernel) rfl ?_
        refine zz_goto (off := 9) (tgt := 20) C (by decide +kernel) (by decide) ?_
        refine zz_aret C hr (Or.inl ⟨_, rfl⟩) hlk (by decide +kernel) hQ (by decide) (by decide) ?_
        first
          | (rw [show t_k h a t = none from if_neg (fun z => absurd c1 (Int32.not_lt.mpr z.1))] at hp; exact hp)
          | (rw [show t_k h a t = zz_aR h (t_kd h a) t.toNatClampNeg from if_pos ⟨Int32.not_lt.mp c1, c7⟩] at hp; exact hp)
          | (rw [show t_k h a t = none from if_neg (fun z => absurd z.2 c7)] at hp; exact hp)

def T_T_got : zz_Tr := fun as h post => ∃ a f hd, as = [zz_r 0 (some a), zz_r 2 f, zz_i hd] ∧ t_ok h a ∧ (f = none → post (some (zz_i 0)) h) ∧ (∀ s, f = some s → post (some (zz_i (zz_fI h 2 0 s))) (t_gt h a s hd))
set_option maxRecDepth 100000 in
set_option maxHeartbeats 4000000 in
theorem m_T_got (l : Launch) : zz_Met l y_T_got w_T_got { frames := 2, cells := 0, slots := 0, locals := 33 } T_T_got := by
  refine zz_ofZ (by decide) (fun as h post hT => ?_) ?_
  · obtain ⟨a, f, hd, rfl, hok, hp0, hp1⟩ := hT
    exact ⟨by simp [zz_cat], by simp⟩
  · intro D DA h as post hT p e s m args below meth c Q C hr hlk hnm hQ
    obtain ⟨a, f, hd, rfl, hok, hp0, hp1⟩ := hT
    refine zz_aload_n (q := 1) (f := 1) (i := 1) C (by decide +kernel) rfl rfl rfl ?_
    refine zz_ifnonnull (off := 5) (tgt := 6) (q := 4) C (by decide +kernel) (by decide) rfl (fun a1 c1 => ?_) (fun c1 => ?_)
    · subst c1
      refine zz_aload_n (q := 7) (f := 0) (i := 0) C (by decide +kernel) rfl rfl rfl ?_
      refine zz_getR (q := 10) C gf_T_36 (by decide +kernel) rfl (by first | rfl | assumption) hok.2.2.2.2.1 ?_
      refine zz_aload_n (q := 11) (f := 1) (i := 1) C (by decide +kernel) rfl rfl rfl ?_
      refine zz_callV (q := 14) C (m_Q_standAt l) cv_T_211 (by decide +kernel) rfl rfl rfl (by first | rfl | assumption) (by decide) (by decide) (Nat.le_of_ble_eq_true rfl) ⟨_, _, rfl, ?_⟩
      refine zz_iload_n (q := 15) (f := 2) (i := 2) C (by decide +kernel) rfl rfl rfl ?_
      refine zz_if_eq (off := 8) (tgt := 23) (q := 18) C (by decide +kernel) (by decide) rfl (fun c15 => ?_) (fun c15 => ?_)
      · refine zz_aload_n (q := 24) (f := 1) (i := 1) C (by decide +kernel) rfl rfl rfl ?_
        refine zz_getI (q := 27) C gf_T_156 (by decide +kernel) rfl (by first | rfl | assumption) rfl ?_
        refine zz_iret C hr hlk (by decide +kernel) hQ (by decide) (by decide) ?_
        have hp2 := hp1 _ rfl
        rw [t_gt] at hp2
        first
          | (rw [if_pos c15] at hp2; exact hp2)
          | (rw [if_neg c15] at hp2; exact hp2)
      · refine zz_aload_n (q := 19) (f := 0) (i := 0) C (by decide +kernel) rfl rfl rfl ?_
        refine zz_aload_n (q := 20) (f := 1) (i := 1) C (by decide +kernel) rfl rfl rfl ?_
        refine zz_putR (q := 23) C gf_T_40 (fun h => by cases h) (by decide +kernel) rfl (by first | rfl | assumption) ?_
        refine zz_aload_n (q := 24) (f := 1) (i := 1) C (by decide +kernel) rfl rfl rfl ?_
        refine zz_getI (q := 27) C gf_T_156 (by decide +kernel) rfl (by first | rfl | assumption) rfl ?_
        refine zz_iret C hr hlk (by decide +kernel) hQ (by decide) (by decide) ?_
        have hp2 := hp1 _ rfl
        rw [t_gt] at hp2
        first
          | (rw [if_pos c15] at hp2; exact hp2)
          | (rw [if_neg c15] at hp2; exact hp2)
    · refine zz_iconst (q := 5) (n := 0) (x := 0) C (by decide +kernel) rfl (by decide +kernel) ?_
      refine zz_iret C hr hlk (by decide +kernel) hQ (by decide) (by decide) ?_
      exact hp0 c1

def T_T_joinTwin : zz_Tr := fun as h post => ∃ a f, as = [zz_r 0 (some a), zz_r 2 (some f)] ∧ t_ok h a ∧ or_okN h (t_od h a) ∧ sg_wf h ∧ kd_wf h ∧ ∀ r, or_best h (or_s h (t_od h a)) (or_tw h (t_od h a) f) (or_N h (t_od h a)) r → (r = none → post none h) ∧ (∀ s, r = some s → post none (t_jn h a f s))
set_option maxRecDepth 100000 in
set_option maxHeartbeats 4000000 in
theorem m_T_joinTwin (l : Launch) : zz_Met l y_T_joinTwin w_T_joinTwin { frames := 4, cells := 0, slots := 0, locals := 77 } T_T_joinTwin := by
  refine zz_ofZ (by decide) (fun as h post hT => ?_) ?_
  · obtain ⟨a, f, rfl, hok, hon, hwf, hkw, hp⟩ := hT
    exact ⟨by simp [zz_cat], by simp⟩
  · intro D DA h as post hT p e s m args below meth c Q C hr hlk hnm hQ
    obtain ⟨a, f, rfl, hok, hon, hwf, hkw, hp⟩ := hT
    refine zz_aload_n (q := 1) (f := 0) (i := 0) C (by decide +kernel) rfl rfl rfl ?_
    refine zz_getR (q := 4) C gf_T_29 (by decide +kernel) rfl (by first | rfl | assumption) hok.2.2.2.1 ?_
    refine zz_aload_n (q := 5) (f := 1) (i := 1) C (by decide +kernel) rfl rfl rfl ?_
    refine zz_callV (q := 8) C (m_O_freeTwinFor l) cv_T_268 (by decide +kernel) rfl rfl rfl (by first | rfl | assumption) (by decide) (by decide) (Nat.le_of_ble_eq_true rfl) ⟨_, _, rfl, hon, hwf, hkw, fun r hr => ?_⟩
    have hr9 := hr
    clear hr
    refine zz_astore_n (q := 9) (f := 2) (i := 2) C (by decide +kernel) rfl rfl (by decide) rfl ?_
    refine zz_aload_n (q := 10) (f := 2) (i := 2) C (by decide +kernel) rfl rfl rfl ?_
    refine zz_ifnull (off := 21) (tgt := 31) (q := 13) C (by decide +kernel) (by decide) rfl (fun c10 => ?_) (fun a10 c10 => ?_)
    · refine zz_vret C hr hlk (by decide +kernel) hQ (by decide) (by decide) ?_
      first
        | exact (hp r hr9).1 c10
        | exact (hp _ hr9).2 _ rfl
    · refine zz_know (fun hty _ hTL _ => ?_)
      obtain ⟨ns, hts⟩ := hTL 2 _ rfl _ c10
      have hos := hwf _ ns hts
      obtain ⟨nk, htk⟩ := hty.1 _ 2 ns 1 1 hts (by decide) rfl _ hos.1
      have hks := hkw _ nk htk
      subst c10
      refine zz_aload_n (q := 14) (f := 2) (i := 2) C (by decide +kernel) rfl rfl rfl ?_
      refine zz_aload_n (q := 15) (f := 0) (i := 0) C (by decide +kernel) rfl rfl rfl ?_
      refine zz_getR (q := 18) C gf_T_15 (by decide +kernel) rfl (by first | rfl | assumption) hok.2.1 ?_
      refine zz_callV (q := 21) C (m_S_takeWords l) cv_T_200 (by decide +kernel) rfl rfl rfl (by first | rfl | assumption) (by decide) (by decide) (Nat.le_of_ble_eq_true rfl) ⟨_, _, rfl, hos, hks, hok.2.2.2.2.2.2, ?_⟩
      refine zz_aload_n (q := 22) (f := 2) (i := 2) C (by decide +kernel) rfl rfl rfl ?_
      refine zz_aload_n (q := 23) (f := 1) (i := 1) C (by decide +kernel) rfl rfl rfl ?_
      refine zz_putR (q := 26) C gf_T_220 (fun h => by cases h) (by decide +kernel) rfl (by first | rfl | assumption) ?_
      refine zz_aload_n (q := 27) (f := 1) (i := 1) C (by decide +kernel) rfl rfl rfl ?_
      refine zz_aload_n (q := 28) (f := 2) (i := 2) C (by decide +kernel) rfl rfl rfl ?_
      refine zz_putR (q := 31) C gf_T_220 (fun h => by cases h) (by decide +kernel) rfl (by first | rfl | assumption) ?_
      refine zz_vret C hr hlk (by decide +kernel) hQ (by decide) (by decide) ?_
      first
        | exact (hp r hr9).1 c10
        | exact (hp _ hr9).2 _ rfl

def T_T_numberOf : zz_Tr := fun as h post => ∃ s, as = [zz_r 2 s] ∧ post (some (zz_i (t_nb h s))) h
set_option maxRecDepth 100000 in
set_option maxHeartbeats 4000000 in
theorem m_T_numberOf (l : Launch) : zz_Met l y_T_numberOf w_T_numberOf { frames := 1, cells := 0, slots := 0, locals := 12 } T_T_numberOf := by
  refine zz_ofZ (by decide) (fun as h post hT => ?_) ?_
  · obtain ⟨sg, rfl, hp⟩ := hT
    exact ⟨by simp [zz_cat], by simp⟩
  · intro D DA h as post hT p e s m args below meth c Q C hr hlk hnm hQ
    obtain ⟨sg, rfl, hp⟩ := hT
    refine zz_aload_n (q := 1) (f := 0) (i := 0) C (by decide +kernel) rfl rfl rfl ?_
    refine zz_ifnonnull (off := 7) (tgt := 8) (q := 4) C (by decide +kernel) (by decide) rfl (fun a1 c1 => ?_) (fun c1 => ?_)
    · refine zz_aload_n (q := 9) (f := 0) (i := 0) C (by decide +kernel) rfl rfl rfl ?_
      refine zz_getI (q := 12) C gf_T_156 (by decide +kernel) rfl (by first | rfl | assumption) rfl ?_
      refine zz_iret C hr hlk (by decide +kernel) hQ (by decide) (by decide) ?_
      rw [c1] at hp
      exact hp
    · refine zz_iconst (q := 5) (n := 0) (x := 0) C (by decide +kernel) rfl (by decide +kernel) ?_
      refine zz_goto (off := 7) (tgt := 12) C (by decide +kernel) (by decide) ?_
      refine zz_iret C hr hlk (by decide +kernel) hQ (by decide) (by decide) ?_
      rw [c1] at hp
      exact hp

def T_T_wordAsked : zz_Tr := fun as h post => ∃ s w, as = [zz_r 2 (some s), zz_i w] ∧ sg_ok h s ∧ kd_ok h (sg_k h s) ∧ post (some (zz_i (t_wq h s w))) h
set_option maxRecDepth 100000 in
set_option maxHeartbeats 4000000 in
theorem m_T_wordAsked (l : Launch) : zz_Met l y_T_wordAsked w_T_wordAsked { frames := 2, cells := 0, slots := 0, locals := 33 } T_T_wordAsked := by
  refine zz_ofZ (by decide) (fun as h post hT => ?_) ?_
  · obtain ⟨sg, w, rfl, hos, hks, hp⟩ := hT
    exact ⟨by simp [zz_cat], by simp⟩
  · intro D DA h as post hT p e s m args below meth c Q C hr hlk hnm hQ
    obtain ⟨sg, w, rfl, hos, hks, hp⟩ := hT
    refine zz_iload_n (q := 1) (f := 1) (i := 1) C (by decide +kernel) rfl rfl rfl ?_
    refine zz_bipush (q := 3) (n := 10) (x := 10) C (by decide +kernel) rfl (by decide +kernel) ?_
    refine zz_icmp_lt (off := 17) (tgt := 20) (q := 6) C (by decide +kernel) (by decide) rfl (fun c3 => ?_) (fun c3 => ?_)
    · refine zz_iconst (q := 21) (n := -1) (x := (-1)) C (by decide +kernel) rfl (by decide +kernel) ?_
      refine zz_iret C hr hlk (by decide +kernel) hQ (by decide) (by decide) ?_
      first
        | (rw [show t_wq h sg w = -1 from if_neg (fun z => absurd c3 (Int32.not_lt.mpr z.1))] at hp; exact hp)
        | (rw [show t_wq h sg w = -1 from if_neg (fun z => zz_b_f c17 z.2)] at hp; exact hp)
    · refine zz_aload_n (q := 7) (f := 0) (i := 0) C (by decide +kernel) rfl rfl rfl ?_
      refine zz_getR (q := 10) C gf_T_168 (by decide +kernel) rfl (by first | rfl | assumption) hos.1 ?_
      refine zz_iload_n (q := 11) (f := 1) (i := 1) C (by decide +kernel) rfl rfl rfl ?_
      refine zz_bipush (q := 13) (n := 10) (x := 10) C (by decide +kernel) rfl (by decide +kernel) ?_
      refine zz_isub (q := 14) C (by decide +kernel) rfl rfl ?_
      refine zz_callV (q := 17) C (m_K_hasWord l) cv_T_108 (by decide +kernel) rfl rfl rfl (by first | rfl | assumption) (by decide) (by decide) (Nat.le_of_ble_eq_true rfl) ⟨_, _, rfl, ?_⟩
      refine zz_if_ne (off := 5) (tgt := 22) (q := 20) C (by decide +kernel) (by decide) rfl (fun c17 => ?_) (fun c17 => ?_)
      · have h9 := zz_b_t c17
        obtain ⟨ln, hl1, hl2⟩ := hks.2
        have h8 := nI_in9 hl2 (by omega) (Int32.not_lt.mpr h9.1) h9.2
        refine zz_aload_n (q := 23) (f := 0) (i := 0) C (by decide +kernel) rfl rfl rfl ?_
        refine zz_getR (q := 26) C gf_T_176 (by decide +kernel) rfl (by first | rfl | assumption) hos.2.1 ?_
        refine zz_iload_n (q := 27) (f := 1) (i := 1) C (by decide +kernel) rfl rfl rfl ?_
        refine zz_bipush (q := 29) (n := 10) (x := 10) C (by decide +kernel) rfl (by decide +kernel) ?_
        refine zz_isub (q := 30) C (by decide +kernel) rfl rfl ?_
        refine zz_iaload (q := 31) C (by decide +kernel) rfl rfl hos.2.2.1 h8.2 (by omega) (by decide) rfl ?_
        refine zz_iret C hr hlk (by decide +kernel) hQ (by decide) (by decide) ?_
        rw [show t_wq h sg w = zz_aI h (sg_w h sg) (w - 10).toNatClampNeg from if_pos ⟨Int32.not_lt.mp c3, h9⟩] at hp
        exact hp
      · refine zz_iconst (q := 21) (n := -1) (x := (-1)) C (by decide +kernel) rfl (by decide +kernel) ?_
        refine zz_iret C hr hlk (by decide +kernel) hQ (by decide) (by decide) ?_
        first
          | (rw [show t_wq h sg w = -1 from if_neg (fun z => absurd c3 (Int32.not_lt.mpr z.1))] at hp; exact hp)
          | (rw [show t_wq h sg w = -1 from if_neg (fun z => zz_b_f c17 z.2)] at hp; exact hp)

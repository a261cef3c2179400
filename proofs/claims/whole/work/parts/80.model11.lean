/-! the reference: gets -/
noncomputable def mCnt (Lv : Nat → Prop) : Nat → Nat
  | 0 => 0
  | n + 1 => @ite Nat (Lv n) (Classical.propDecidable _) (mCnt Lv n + 1) (mCnt Lv n)
theorem mSrt_cnt {P : Nat → Nat → Prop} {Lv : Nat → Prop} : ∀ n Ls, mSrt P Lv n Ls → Ls.length = mCnt Lv n
  | 0, Ls, hs => by
    have : Ls = [] := hs
    rw [this]; rfl
  | n + 1, Ls, hs => by
    rcases hs with ⟨h1, L0, h2, A, B, rfl, rfl, -, -⟩ | ⟨h1, h2⟩
    · have := mSrt_cnt n _ h2
      rw [mCnt, if_pos h1, ← this]
      simp [List.length_append]; omega
    · rw [mCnt, if_neg h1]; exact mSrt_cnt n _ h2
theorem mCnt_le (Lv : Nat → Prop) : ∀ n, mCnt Lv n ≤ n
  | 0 => Nat.le_refl _
  | n + 1 => by
    have := mCnt_le Lv n
    rw [mCnt]; split <;> omega
theorem mo_sm_C {r : Nat} {h h' : zz_H} (e : mo_sm r h h') (l : Nat) : mC h' r l = mC h r l := by rw [mC, mC, mo_sm_a e 23 (by decide) (by decide)]
theorem mo_sm_W {r : Nat} {h h' : zz_H} (e : mo_sm r h h') (l : Nat) : mW h' r l = mW h r l := by rw [mW, mW, mo_sm_a e 24 (by decide) (by decide)]
theorem mo_sm_wp {r : Nat} {h h' : zz_H} (e : mo_sm r h h') (hw : mo_wp h r) : mo_wp h' r := fun l hl => by
  obtain ⟨h1, h2, h3⟩ := hw l hl
  rw [mo_sm_a e 23 (by decide) (by decide), mo_sm_C e]
  refine ⟨h1, h2, fun k hk => ?_⟩
  rw [mo_sm_a e 24 (by decide) (by decide), mo_sm_W e]
  exact h3 k hk
/-- the reference's object is well formed -/
def mo_W (h : zz_H) (r sw t2 : Nat) : Prop := sw < 4 ∧ (zz_fI h 7 9 r ≠ -1 → zz_fI h 7 10 r = nI sw) ∧ mo_ok h r ∧ mo_ap h r ∧ mo_wl h r ∧ mo_wt h r ∧ mo_kd h r ∧ mo_t2 h r t2 ∧ mo_wp h r ∧ zz_fI h 7 13 r = nI (mCnt (mLive h r) 60)
def mo_Sd (h : zz_H) (r sw t2 : Nat) (y : Nat → Nat → Int64) (Ls : List Nat) (x : Nat → Nat → Int32) : Prop := mVl h r sw 60 y ∧ mSrt (mFst (mo_ly h y) r t2) (mLive h r) 60 Ls ∧ mX (mf h r 19) x 0 Ls ∧ mFr h r x
def mo_so (h : zz_H) (y : Nat → Nat → Int64) (x : Nat → Nat → Int32) : zz_H := mo_rx (mo_ly h y) x
section SO
variable {h : zz_H} {r sw t2 : Nat} {y : Nat → Nat → Int64} {Ls : List Nat} {x : Nat → Nat → Int32}
theorem mo_so_sm (hW : mo_W h r sw t2) (hS : mo_Sd h r sw t2 y Ls x) : mo_sm r (mo_ly h y) (mo_so h y x) := mo_rx_sm hW.2.2.2.1 hS.2.2.2
theorem mo_so_wl (hW : mo_W h r sw t2) (hS : mo_Sd h r sw t2 y Ls x) : mo_wl (mo_so h y x) r := mo_sm_wl (mo_so_sm hW hS) hW.2.2.2.2.1
theorem mo_so_wp (hW : mo_W h r sw t2) (hS : mo_Sd h r sw t2 y Ls x) : mo_wp (mo_so h y x) r := mo_sm_wp (mo_so_sm hW hS) hW.2.2.2.2.2.2.2.2.1
theorem mo_so_n (hW : mo_W h r sw t2) (hS : mo_Sd h r sw t2 y Ls x) : zz_fI (mo_so h y x) 7 13 r = nI Ls.length := hW.2.2.2.2.2.2.2.2.2.trans (by rw [mSrt_cnt _ _ hS.2.1])
theorem mo_so_60 (hS : mo_Sd h r sw t2 y Ls x) : Ls.length ≤ 60 := (mSrt_in _ _ hS.2.1).1
theorem mo_so_al (hW : mo_W h r sw t2) (hS : mo_Sd h r sw t2 y Ls x) : ∀ e ∈ Ls, mLive (mo_so h y x) r e := fun e he => by
  rw [mo_sm_L (mo_so_sm hW hS)]
  exact (mSrt_in _ _ hS.2.1).2 e he
end SO
def T_M_unique : zz_Tr := fun as h post => ∃ r hd sw t2, as = [zz_r 7 (some r), zz_i hd] ∧ (hd = 0 ∨ hd = 1) ∧ mo_W h r sw t2 ∧ ∀ y Ls x, mo_Sd (mo_bg h r) r sw t2 y Ls x → mGp (mo_so (mo_bg h r) y x) r 0 none hd Ls post
set_option maxRecDepth 100000 in
set_option maxHeartbeats 4000000 in
theorem m_M_unique (l : Launch) : zz_Met l y_M_unique w_M_unique { frames := 6, cells := 0, slots := 0, locals := 129 } T_M_unique := by
  refine zz_ofZ (by decide) (fun as h post hT => ?_) ?_
  · obtain ⟨r, hd, sw, t2, rfl, hhd, hW, hp⟩ := hT
    exact ⟨by simp [zz_cat], by simp⟩
  · intro D DA h as post hT p e s m args below meth c Q C hr hlk hnm hQ
    obtain ⟨r, hd, sw, t2, rfl, hhd, hW, hp⟩ := hT
    refine zz_aload_n (q := 1) (f := 0) (i := 0) C (by decide +kernel) rfl rfl rfl ?_
    refine zz_callV (q := 4) C (m_M_begin l) cv_M_91 (by decide +kernel) rfl rfl rfl (by first | rfl | assumption) (by decide) (by decide) (Nat.le_of_ble_eq_true rfl) ⟨_, rfl, ?_⟩
    refine zz_aload_n (q := 5) (f := 0) (i := 0) C (by decide +kernel) rfl rfl rfl ?_
    refine zz_callV (q := 8) C (m_M_sort l) cv_M_162 (by decide +kernel) rfl rfl rfl (by first | rfl | assumption) (by decide) (by decide) (Nat.le_of_ble_eq_true rfl) ⟨_, sw, t2, rfl, hW.1, hW.2.1, hW.2.2.1, hW.2.2.2.1, hW.2.2.2.2.1, hW.2.2.2.2.2.1, hW.2.2.2.2.2.2.1, hW.2.2.2.2.2.2.2.1, fun y Ls x k1 k2 k3 k4 => ?_⟩
    have hS : mo_Sd (mo_bg h r) r sw t2 y Ls x := ⟨k1, k2, k3, k4⟩
    have hW0 : mo_W (mo_bg h r) r sw t2 := hW
    refine zz_aload_n (q := 9) (f := 0) (i := 0) C (by decide +kernel) rfl rfl rfl ?_
    refine zz_iconst (q := 10) (n := 0) (x := 0) C (by decide +kernel) rfl (by decide +kernel) ?_
    refine zz_iconst (q := 11) (n := -1) (x := (-1)) C (by decide +kernel) rfl (by decide +kernel) ?_
    refine zz_iload_n (q := 12) (f := 1) (i := 1) C (by decide +kernel) rfl rfl rfl ?_
    refine zz_callV (q := 15) C (m_M_get l) cv_M_165 (by decide +kernel) rfl rfl rfl (by first | rfl | assumption) (by decide) (by decide) (Nat.le_of_ble_eq_true rfl) ⟨_, 0, none, _, Ls, rfl, (by omega), hW.2.2.1, mo_so_wl hW0 hS, mo_so_wp hW0 hS, mo_so_60 hS, mo_so_n hW0 hS, k3, mo_so_al hW0 hS, (fun b z => by cases z), fun res hres => ⟨fun z => ?_, fun s9 z => ?_⟩⟩
    · refine zz_iret C hr hlk (by decide +kernel) hQ (by decide) (by decide) ?_
      exact ((hp y Ls x hS) res hres).1 z
    · refine zz_iret C hr hlk (by decide +kernel) hQ (by decide) (by decide) ?_
      exact ((hp y Ls x hS) res hres).2 s9 z

def T_M_next : zz_Tr := fun as h post => ∃ r hd sw t2, as = [zz_r 7 (some r), zz_i hd] ∧ (hd = 0 ∨ hd = 1) ∧ mo_W h r sw t2 ∧ ∀ y Ls x, mo_Sd (mo_bg h r) r sw t2 y Ls x → ∃ i, i ≤ 61 ∧ mBh (mo_so (mo_bg h r) y x) r i ∧ mGp (mo_so (mo_bg h r) y x) r i none hd Ls post
set_option maxRecDepth 100000 in
set_option maxHeartbeats 4000000 in
theorem m_M_next (l : Launch) : zz_Met l y_M_next w_M_next { frames := 6, cells := 0, slots := 0, locals := 129 } T_M_next := by
  refine zz_ofZ (by decide) (fun as h post hT => ?_) ?_
  · obtain ⟨r, hd, sw, t2, rfl, hhd, hW, hp⟩ := hT
    exact ⟨by simp [zz_cat], by simp⟩
  · intro D DA h as post hT p e s m args below meth c Q C hr hlk hnm hQ
    obtain ⟨r, hd, sw, t2, rfl, hhd, hW, hp⟩ := hT
    refine zz_aload_n (q := 1) (f := 0) (i := 0) C (by decide +kernel) rfl rfl rfl ?_
    refine zz_callV (q := 4) C (m_M_begin l) cv_M_91 (by decide +kernel) rfl rfl rfl (by first | rfl | assumption) (by decide) (by decide) (Nat.le_of_ble_eq_true rfl) ⟨_, rfl, ?_⟩
    refine zz_aload_n (q := 5) (f := 0) (i := 0) C (by decide +kernel) rfl rfl rfl ?_
    refine zz_callV (q := 8) C (m_M_sort l) cv_M_162 (by decide +kernel) rfl rfl rfl (by first | rfl | assumption) (by decide) (by decide) (Nat.le_of_ble_eq_true rfl) ⟨_, sw, t2, rfl, hW.1, hW.2.1, hW.2.2.1, hW.2.2.2.1, hW.2.2.2.2.1, hW.2.2.2.2.2.1, hW.2.2.2.2.2.2.1, hW.2.2.2.2.2.2.2.1, fun y Ls x k1 k2 k3 k4 => ?_⟩
    have hS : mo_Sd (mo_bg h r) r sw t2 y Ls x := ⟨k1, k2, k3, k4⟩
    have hW0 : mo_W (mo_bg h r) r sw t2 := hW
    obtain ⟨i9, hi61, hbh, hgp⟩ := hp y Ls x hS
    refine zz_aload_n (q := 9) (f := 0) (i := 0) C (by decide +kernel) rfl rfl rfl ?_
    refine zz_aload_n (q := 10) (f := 0) (i := 0) C (by decide +kernel) rfl rfl rfl ?_
    refine zz_callV (q := 13) C (m_M_behind l) cv_M_169 (by decide +kernel) rfl rfl rfl (by first | rfl | assumption) (by decide) (by decide) (Nat.le_of_ble_eq_true rfl) ⟨_, i9, rfl, hW.2.2.1, hbh, ?_⟩
    refine zz_iconst (q := 14) (n := -1) (x := (-1)) C (by decide +kernel) rfl (by decide +kernel) ?_
    refine zz_iload_n (q := 15) (f := 1) (i := 1) C (by decide +kernel) rfl rfl rfl ?_
    refine zz_callV (q := 18) C (m_M_get l) cv_M_165 (by decide +kernel) rfl rfl rfl (by first | rfl | assumption) (by decide) (by decide) (Nat.le_of_ble_eq_true rfl) ⟨_, i9, none, _, Ls, rfl, (by omega), hW.2.2.1, mo_so_wl hW0 hS, mo_so_wp hW0 hS, mo_so_60 hS, mo_so_n hW0 hS, k3, mo_so_al hW0 hS, (fun b z => by cases z), fun res hres => ⟨fun z => ?_, fun s9 z => ?_⟩⟩
    · refine zz_iret C hr hlk (by decide +kernel) hQ (by decide) (by decide) ?_
      exact (hgp res hres).1 z
    · refine zz_iret C hr hlk (by decide +kernel) hQ (by decide) (by decide) ?_
      exact (hgp res hres).2 s9 z

def T_M_within : zz_Tr := fun as h post => ∃ r hd sw t2 fx, as = [zz_r 7 (some r), zz_i hd] ∧ (hd = 0 ∨ hd = 1) ∧ zz_fI h 7 31 r = mO fx ∧ (∀ b, fx = some b → b < 60) ∧ mo_W h r sw t2 ∧ (fx = none → post (some (zz_i 0)) (zz_pI (mo_bg h r) 7 0 r 1)) ∧ (fx ≠ none → ∀ y Ls x, mo_Sd (mo_bg h r) r sw t2 y Ls x → ∃ i, i ≤ 61 ∧ mBh (mo_so (mo_bg h r) y x) r i ∧ mGp (mo_so (mo_bg h r) y x) r i fx hd Ls post)
set_option maxRecDepth 100000 in
set_option maxHeartbeats 4000000 in
theorem m_M_within (l : Launch) : zz_Met l y_M_within w_M_within { frames := 6, cells := 0, slots := 0, locals := 129 } T_M_within := by
  refine zz_ofZ (by decide) (fun as h post hT => ?_) ?_
  · obtain ⟨r, hd, sw, t2, fx, rfl, hhd, hfx, hf60, hW, hp0, hp⟩ := hT
    exact ⟨by simp [zz_cat], by simp⟩
  · intro D DA h as post hT p e s m args below meth c Q C hr hlk hnm hQ
    obtain ⟨r, hd, sw, t2, fx, rfl, hhd, hfx, hf60, hW, hp0, hp⟩ := hT
    refine zz_aload_n (q := 1) (f := 0) (i := 0) C (by decide +kernel) rfl rfl rfl ?_
    refine zz_callV (q := 4) C (m_M_begin l) cv_M_91 (by decide +kernel) rfl rfl rfl (by first | rfl | assumption) (by decide) (by decide) (Nat.le_of_ble_eq_true rfl) ⟨_, rfl, ?_⟩
    refine zz_aload_n (q := 5) (f := 0) (i := 0) C (by decide +kernel) rfl rfl rfl ?_
    refine zz_getI (q := 8) C gf_M_85 (by decide +kernel) rfl (by first | rfl | assumption) hfx ?_
    refine zz_iconst (q := 9) (n := -1) (x := (-1)) C (by decide +kernel) rfl (by decide +kernel) ?_
    refine zz_icmp_ne (off := 9) (tgt := 18) (q := 12) C (by decide +kernel) (by decide) rfl (fun c9 => ?_) (fun c9 => ?_)
    · refine zz_aload_n (q := 19) (f := 0) (i := 0) C (by decide +kernel) rfl rfl rfl ?_
      refine zz_callV (q := 22) C (m_M_sort l) cv_M_162 (by decide +kernel) rfl rfl rfl (by first | rfl | assumption) (by decide) (by decide) (Nat.le_of_ble_eq_true rfl) ⟨_, sw, t2, rfl, hW.1, hW.2.1, hW.2.2.1, hW.2.2.2.1, hW.2.2.2.2.1, hW.2.2.2.2.2.1, hW.2.2.2.2.2.2.1, hW.2.2.2.2.2.2.2.1, fun y Ls x k1 k2 k3 k4 => ?_⟩
      have hS : mo_Sd (mo_bg h r) r sw t2 y Ls x := ⟨k1, k2, k3, k4⟩
      have hW0 : mo_W (mo_bg h r) r sw t2 := hW
      obtain ⟨i9, hi61, hbh, hgp⟩ := hp (fun z => c9 (by rw [z]; rfl)) y Ls x hS
      refine zz_aload_n (q := 23) (f := 0) (i := 0) C (by decide +kernel) rfl rfl rfl ?_
      refine zz_aload_n (q := 24) (f := 0) (i := 0) C (by decide +kernel) rfl rfl rfl ?_
      refine zz_callV (q := 27) C (m_M_behind l) cv_M_169 (by decide +kernel) rfl rfl rfl (by first | rfl | assumption) (by decide) (by decide) (Nat.le_of_ble_eq_true rfl) ⟨_, i9, rfl, hW.2.2.1, hbh, ?_⟩
      refine zz_aload_n (q := 28) (f := 0) (i := 0) C (by decide +kernel) rfl rfl rfl ?_
      refine zz_getI (q := 31) C gf_M_85 (by decide +kernel) rfl (by first | rfl | assumption) hfx ?_
      refine zz_iload_n (q := 32) (f := 1) (i := 1) C (by decide +kernel) rfl rfl rfl ?_
      refine zz_callV (q := 35) C (m_M_get l) cv_M_165 (by decide +kernel) rfl rfl rfl (by first | rfl | assumption) (by decide) (by decide) (Nat.le_of_ble_eq_true rfl) ⟨_, i9, fx, _, Ls, rfl, (by omega), hW.2.2.1, mo_so_wl hW0 hS, mo_so_wp hW0 hS, mo_so_60 hS, mo_so_n hW0 hS, k3, mo_so_al hW0 hS, hf60, fun res hres => ⟨fun z => ?_, fun s9 z => ?_⟩⟩
      · refine zz_iret C hr hlk (by decide +kernel) hQ (by decide) (by decide) ?_
        exact (hgp res hres).1 z
      · refine zz_iret C hr hlk (by decide +kernel) hQ (by decide) (by decide) ?_
        exact (hgp res hres).2 s9 z
    · refine zz_aload_n (q := 13) (f := 0) (i := 0) C (by decide +kernel) rfl rfl rfl ?_
      refine zz_iconst (q := 14) (n := 1) (x := 1) C (by decide +kernel) rfl (by decide +kernel) ?_
      refine zz_callV (q := 17) C (m_M_refuse l) cv_M_173 (by decide +kernel) rfl rfl rfl (by first | rfl | assumption) (by decide) (by decide) (Nat.le_of_ble_eq_true rfl) ⟨_, _, rfl, ?_⟩
      refine zz_iret C hr hlk (by decide +kernel) hQ (by decide) (by decide) ?_
      exact hp0 (by
        cases fx with
        | none => rfl
        | some b => exact absurd c9 (nI_neg (by have := hf60 b rfl; omega)))

def T_M_place : zz_Tr := fun as h post => ∃ r sw t2, as = [zz_r 7 (some r)] ∧ mo_W h r sw t2 ∧ ∀ y Ls x, mo_Sd (mo_bg h r) r sw t2 y Ls x → (zz_fI h 7 28 r = 1 → ∃ w j, zz_fI h 7 29 r = nI w ∧ mIx (mo_so (mo_bg h r) y x) r w j ∧ post (some (zz_i (nI j))) (mo_so (mo_bg h r) y x)) ∧ (zz_fI h 7 28 r ≠ 1 → ∃ i, mBh (mo_so (mo_bg h r) y x) r i ∧ post (some (zz_i (nI i))) (mo_so (mo_bg h r) y x))
set_option maxRecDepth 100000 in
set_option maxHeartbeats 4000000 in
theorem m_M_place (l : Launch) : zz_Met l y_M_place w_M_place { frames := 5, cells := 0, slots := 0, locals := 108 } T_M_place := by
  refine zz_ofZ (by decide) (fun as h post hT => ?_) ?_
  · obtain ⟨r, sw, t2, rfl, hW, hp⟩ := hT
    exact ⟨by simp [zz_cat], by simp⟩
  · intro D DA h as post hT p e s m args below meth c Q C hr hlk hnm hQ
    obtain ⟨r, sw, t2, rfl, hW, hp⟩ := hT
    refine zz_aload_n (q := 1) (f := 0) (i := 0) C (by decide +kernel) rfl rfl rfl ?_
    refine zz_callV (q := 4) C (m_M_begin l) cv_M_91 (by decide +kernel) rfl rfl rfl (by first | rfl | assumption) (by decide) (by decide) (Nat.le_of_ble_eq_true rfl) ⟨_, rfl, ?_⟩
    refine zz_aload_n (q := 5) (f := 0) (i := 0) C (by decide +kernel) rfl rfl rfl ?_
    refine zz_callV (q := 8) C (m_M_sort l) cv_M_162 (by decide +kernel) rfl rfl rfl (by first | rfl | assumption) (by decide) (by decide) (Nat.le_of_ble_eq_true rfl) ⟨_, sw, t2, rfl, hW.1, hW.2.1, hW.2.2.1, hW.2.2.2.1, hW.2.2.2.2.1, hW.2.2.2.2.2.1, hW.2.2.2.2.2.2.1, hW.2.2.2.2.2.2.2.1, fun y Ls x k1 k2 k3 k4 => ?_⟩
    have hS : mo_Sd (mo_bg h r) r sw t2 y Ls x := ⟨k1, k2, k3, k4⟩
    have hW0 : mo_W (mo_bg h r) r sw t2 := hW
    refine zz_aload_n (q := 9) (f := 0) (i := 0) C (by decide +kernel) rfl rfl rfl ?_
    refine zz_getI (q := 12) C gf_M_144 (by decide +kernel) rfl (by first | rfl | assumption) rfl ?_
    refine zz_iconst (q := 13) (n := 1) (x := 1) C (by decide +kernel) rfl (by decide +kernel) ?_
    refine zz_icmp_ne (off := 14) (tgt := 27) (q := 16) C (by decide +kernel) (by decide) rfl (fun c13 => ?_) (fun c13 => ?_)
    · obtain ⟨i9, hbh, hp2⟩ := (hp y Ls x hS).2 c13
      refine zz_aload_n (q := 28) (f := 0) (i := 0) C (by decide +kernel) rfl rfl rfl ?_
      refine zz_callV (q := 31) C (m_M_behind l) cv_M_169 (by decide +kernel) rfl rfl rfl (by first | rfl | assumption) (by decide) (by decide) (Nat.le_of_ble_eq_true rfl) ⟨_, i9, rfl, hW.2.2.1, hbh, ?_⟩
      refine zz_iret C hr hlk (by decide +kernel) hQ (by decide) (by decide) ?_
      exact hp2
    · obtain ⟨w, j9, b1, b2, hp2⟩ := (hp y Ls x hS).1 c13
      refine zz_aload_n (q := 17) (f := 0) (i := 0) C (by decide +kernel) rfl rfl rfl ?_
      refine zz_aload_n (q := 18) (f := 0) (i := 0) C (by decide +kernel) rfl rfl rfl ?_
      refine zz_getI (q := 21) C gf_M_147 (by decide +kernel) rfl (by first | rfl | assumption) b1 ?_
      refine zz_callV (q := 24) C (m_M_indexOf l) cv_M_150 (by decide +kernel) rfl rfl rfl (by first | rfl | assumption) (by decide) (by decide) (Nat.le_of_ble_eq_true rfl) ⟨_, _, j9, rfl, hW.2.2.1, b2, ?_⟩
      refine zz_goto (off := 7) (tgt := 31) C (by decide +kernel) (by decide) ?_
      refine zz_iret C hr hlk (by decide +kernel) hQ (by decide) (by decide) ?_
      exact hp2

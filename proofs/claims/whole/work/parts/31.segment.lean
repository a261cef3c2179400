/-! Segment: what is read of one, and what holds of all -/
def kd_ok (h : zz_H) (k : Nat) : Prop := (zz_fI h 1 4 k = -1 ∨ ∃ j, j < 4 ∧ zz_fI h 1 4 k = nI j) ∧ ∃ n, n ≤ 4 ∧ zz_fI h 1 3 k = nI n
def kd_wf (h : zz_H) : Prop := ∀ k n, zz_tg h k = some (1, n) → kd_ok h k
def sg_k (h : zz_H) (a : Nat) : Nat := (zz_fR h 2 1 a).getD 0
def sg_w (h : zz_H) (a : Nat) : Nat := (zz_fR h 2 3 a).getD 0
def sg_ok (h : zz_H) (a : Nat) : Prop := zz_fR h 2 1 a = some (sg_k h a) ∧ zz_fR h 2 3 a = some (sg_w h a) ∧ zz_tg h (sg_w h a) = some (90, 4) ∧ (zz_fI h 2 5 a = 0 ∨ zz_fI h 2 5 a = 1)
def sg_wf (h : zz_H) : Prop := ∀ a n, zz_tg h a = some (2, n) → sg_ok h a
def sg_lv (h : zz_H) (a : Nat) : Int32 := zz_fI h 1 2 (sg_k h a)
/-- the place of the sequence word -/
def kd_sq (h : zz_H) (k : Nat) : Nat := (zz_fI h 1 4 k).toNatClampNeg
def kd_ln (h : zz_H) (k : Nat) : Nat := (zz_fI h 1 3 k).toNatClampNeg
theorem kd_sq_eq {h : zz_H} {k : Nat} (hk : kd_ok h k) (hn : zz_fI h 1 4 k ≠ -1) : kd_sq h k < 4 ∧ zz_fI h 1 4 k = nI (kd_sq h k) := by
  rcases hk.1 with e | ⟨j, hj, e⟩
  · exact absurd e hn
  · have : kd_sq h k = j := by rw [kd_sq, e, nI_clamp (by omega)]
    rw [this]
    exact ⟨hj, e⟩
theorem kd_ln_eq {h : zz_H} {k : Nat} (hk : kd_ok h k) : kd_ln h k ≤ 4 ∧ zz_fI h 1 3 k = nI (kd_ln h k) := by
  obtain ⟨-, n, hn, e⟩ := hk
  have : kd_ln h k = n := by rw [kd_ln, e, nI_clamp (by omega)]
  rw [this]
  exact ⟨hn, e⟩
/-- up the chain of parents, while the level is below -/
def sg_up (h : zz_H) (lv : Int32) : Nat → Nat → Nat
  | 0, a => a
  | n + 1, a => if sg_lv h a ≤ lv then a else match zz_fR h 2 2 a with
    | none => a
    | some b => sg_up h lv n b
theorem sg_up_le {h : zz_H} {lv : Int32} {n o : Nat} (hl : sg_lv h o ≤ lv) : sg_up h lv n o = o := by cases n <;> simp [sg_up, hl]
theorem sg_up_no {h : zz_H} {lv : Int32} {n o : Nat} (hp : zz_fR h 2 2 o = none) : sg_up h lv n o = o := by cases n <;> simp [sg_up, hp]
theorem sg_up_go {h : zz_H} {lv : Int32} {n o b : Nat} (hl : ¬ sg_lv h o ≤ lv) (hp : zz_fR h 2 2 o = some b) : sg_up h lv (n + 1) o = sg_up h lv n b := by simp [sg_up, hl, hp]
def sg_at (h : zz_H) (lv : Int32) (a : Nat) : Option Nat := if sg_lv h (sg_up h lv 3 a) = lv then some (sg_up h lv 3 a) else none
def T_S_takeWords : zz_Tr := fun as h post => ∃ a b, as = [zz_r 2 (some a), zz_r 90 (some b)] ∧ sg_ok h a ∧ kd_ok h (sg_k h a) ∧ zz_tg h b = some (90, 4) ∧ post none (zz_uI h (sg_w h a) (fun j => if j < kd_ln h (sg_k h a) then zz_aI h b j else zz_aI h (sg_w h a) j))
set_option maxRecDepth 100000 in
set_option maxHeartbeats 4000000 in
theorem m_S_takeWords (l : Launch) : zz_Met l y_S_takeWords w_S_takeWords { frames := 1, cells := 0, slots := 0, locals := 40 } T_S_takeWords := by
  refine zz_ofZ (by decide) (fun as h post hT => ?_) ?_
  · obtain ⟨a, b, rfl, hok, hkd, htb, hp⟩ := hT
    exact ⟨by simp [zz_cat], by simp⟩
  · intro D DA h as post hT p e s m args below meth c Q C hr hlk hnm hQ
    obtain ⟨a, b, rfl, hok, hkd, htb, hp⟩ := hT
    refine zz_aload_n (q := 1) (f := 1) (i := 1) C (by decide +kernel) rfl rfl rfl ?_
    refine zz_iconst (q := 2) (n := 0) (x := 0) C (by decide +kernel) rfl (by decide +kernel) ?_
    refine zz_aload_n (q := 3) (f := 0) (i := 0) C (by decide +kernel) rfl rfl rfl ?_
    refine zz_getR (q := 6) C gf_S_9 (by decide +kernel) rfl (by first | rfl | assumption) hok.2.1 ?_
    refine zz_iconst (q := 7) (n := 0) (x := 0) C (by decide +kernel) rfl (by decide +kernel) ?_
    refine zz_aload_n (q := 8) (f := 0) (i := 0) C (by decide +kernel) rfl rfl rfl ?_
    refine zz_getR (q := 11) C gf_S_19 (by decide +kernel) rfl (by first | rfl | assumption) hok.1 ?_
    refine zz_getI (q := 14) C gf_S_27 (by decide +kernel) rfl (by first | rfl | assumption) (kd_ln_eq hkd).2 ?_
    refine zz_copyI (q := 17) (k := kd_ln h (sg_k h a)) C al_S_32 zw_an zw_as zw_ai (by decide +kernel) rfl rfl rfl htb hok.2.2.1 rfl (kd_ln_eq hkd).1 (kd_ln_eq hkd).1 (by have := (kd_ln_eq hkd).1; omega) (by decide) (by decide +kernel) ?_
    refine zz_vret C hr hlk (by decide +kernel) hQ (by decide) (by decide) ?_
    exact hp

def T_S_hasSequenceOf : zz_Tr := fun as h post => ∃ a b, as = [zz_r 2 (some a), zz_r 90 (some b)] ∧ sg_ok h a ∧ kd_ok h (sg_k h a) ∧ zz_tg h b = some (90, 4) ∧ post (some (zz_i (zz_b (zz_fI h 1 4 (sg_k h a) ≠ -1 ∧ zz_aI h (sg_w h a) (kd_sq h (sg_k h a)) = zz_aI h b (kd_sq h (sg_k h a)))))) h
set_option maxRecDepth 100000 in
set_option maxHeartbeats 4000000 in
theorem m_S_hasSequenceOf (l : Launch) : zz_Met l y_S_hasSequenceOf w_S_hasSequenceOf { frames := 2, cells := 0, slots := 0, locals := 32 } T_S_hasSequenceOf := by
  refine zz_ofZ (by decide) (fun as h post hT => ?_) ?_
  · obtain ⟨a, b, rfl, hok, hkd, htb, hp⟩ := hT
    exact ⟨by simp [zz_cat], by simp⟩
  · intro D DA h as post hT p e s m args below meth c Q C hr hlk hnm hQ
    obtain ⟨a, b, rfl, hok, hkd, htb, hp⟩ := hT
    refine zz_aload_n (q := 1) (f := 0) (i := 0) C (by decide +kernel) rfl rfl rfl ?_
    refine zz_getR (q := 4) C gf_S_19 (by decide +kernel) rfl (by first | rfl | assumption) hok.1 ?_
    refine zz_callV (q := 7) C (m_K_hasSequence l) cv_S_38 (by decide +kernel) rfl rfl rfl (by first | rfl | assumption) (by decide) (by decide) (by decide) ⟨_, rfl, ?_⟩
    refine zz_if_eq (off := 31) (tgt := 38) (q := 10) C (by decide +kernel) (by decide) rfl (fun c7 => ?_) (fun c7 => ?_)
    · refine zz_iconst (q := 39) (n := 0) (x := 0) C (by decide +kernel) rfl (by decide +kernel) ?_
      refine zz_zret C hr hlk (by decide +kernel) (by decide) hQ (by decide) (by decide) ?_
      first | exact zz_b1 (P := fun x => post (some (zz_i x)) h) hp ⟨hne, c31⟩ | exact zz_b0 (P := fun x => post (some (zz_i x)) h) hp (fun z => c31 z.2) | exact zz_b0 (P := fun x => post (some (zz_i x)) h) hp (fun z => zz_b_f c7 z.1)
    · have hne : zz_fI h 1 4 (sg_k h a) ≠ -1 := zz_b_t c7
      refine zz_aload_n (q := 11) (f := 0) (i := 0) C (by decide +kernel) rfl rfl rfl ?_
      refine zz_getR (q := 14) C gf_S_9 (by decide +kernel) rfl (by first | rfl | assumption) hok.2.1 ?_
      refine zz_aload_n (q := 15) (f := 0) (i := 0) C (by decide +kernel) rfl rfl rfl ?_
      refine zz_getR (q := 18) C gf_S_19 (by decide +kernel) rfl (by first | rfl | assumption) hok.1 ?_
      refine zz_getI (q := 21) C gf_S_42 (by decide +kernel) rfl (by first | rfl | assumption) (kd_sq_eq hkd hne).2 ?_
      refine zz_iaload (q := 22) C (by decide +kernel) rfl rfl hok.2.2.1 rfl (kd_sq_eq hkd hne).1 (by decide) rfl ?_
      refine zz_aload_n (q := 23) (f := 1) (i := 1) C (by decide +kernel) rfl rfl rfl ?_
      refine zz_aload_n (q := 24) (f := 0) (i := 0) C (by decide +kernel) rfl rfl rfl ?_
      refine zz_getR (q := 27) C gf_S_19 (by decide +kernel) rfl (by first | rfl | assumption) hok.1 ?_
      refine zz_getI (q := 30) C gf_S_42 (by decide +kernel) rfl (by first | rfl | assumption) (kd_sq_eq hkd hne).2 ?_
      refine zz_iaload (q := 31) C (by decide +kernel) rfl rfl htb rfl (kd_sq_eq hkd hne).1 (by decide) rfl ?_
      refine zz_icmp_ne (off := 7) (tgt := 38) (q := 34) C (by decide +kernel) (by decide) rfl (fun c31 => ?_) (fun c31 => ?_)
      · refine zz_iconst (q := 39) (n := 0) (x := 0) C (by decide +kernel) rfl (by decide +kernel) ?_
        refine zz_zret C hr hlk (by decide +kernel) (by decide) hQ (by decide) (by decide) ?_
        first | exact zz_b1 (P := fun x => post (some (zz_i x)) h) hp ⟨hne, c31⟩ | exact zz_b0 (P := fun x => post (some (zz_i x)) h) hp (fun z => c31 z.2) | exact zz_b0 (P := fun x => post (some (zz_i x)) h) hp (fun z => zz_b_f c7 z.1)
      · refine zz_iconst (q := 35) (n := 1) (x := 1) C (by decide +kernel) rfl (by decide +kernel) ?_
        refine zz_goto (off := 4) (tgt := 39) C (by decide +kernel) (by decide) ?_
        refine zz_zret C hr hlk (by decide +kernel) (by decide) hQ (by decide) (by decide) ?_
        first | exact zz_b1 (P := fun x => post (some (zz_i x)) h) hp ⟨hne, c31⟩ | exact zz_b0 (P := fun x => post (some (zz_i x)) h) hp (fun z => c31 z.2) | exact zz_b0 (P := fun x => post (some (zz_i x)) h) hp (fun z => zz_b_f c7 z.1)

def T_S_atLevel : zz_Tr := fun as h post => ∃ a lv, as = [zz_r 2 (some a), zz_i lv] ∧ sg_wf h ∧ post (some (zz_r 2 (sg_at h lv a))) h
set_option maxRecDepth 100000 in
set_option maxHeartbeats 4000000 in
theorem m_S_atLevel (l : Launch) : zz_Met l y_S_atLevel w_S_atLevel { frames := 1, cells := 0, slots := 0, locals := 12 } T_S_atLevel := by
  refine zz_ofZ (by decide) (fun as h post hT => ?_) ?_
  · obtain ⟨a, lv, rfl, hwf, hp⟩ := hT
    exact ⟨by simp [zz_cat], by simp⟩
  · intro D DA h as post hT p e s m args below meth c Q C hr hlk hnm hQ
    obtain ⟨a, lv, rfl, hwf, hp⟩ := hT
    refine zz_know (fun hty _ hTL _ => ?_)
    obtain ⟨na, hta⟩ := hTL 0 _ rfl a rfl
    have hta : zz_tg h a = some (2, na) := hta
    have lp38 : ∀ o (i : Int32), (∃ no, zz_tg h o = some (2, no)) → post (some (zz_r 2 (if sg_lv h o = lv then some o else none))) h → zz_Z p l e { frames := 1, cells := 0, slots := 0, locals := 12 } s m args below meth c Q D DA (zz_A h s.heap.size) h 4 38 [some (zz_r 2 (some a)), some (zz_i lv), some (zz_r 2 (some o)), some (zz_i i)] [] h 0 0 := by
      rintro o i ⟨no, hto⟩ hp
      have hok := hwf o no hto
      refine zz_aload_n (q := 39) (f := 2) (i := 2) C (by decide +kernel) rfl rfl rfl ?_
      refine zz_getR (q := 42) C gf_S_19 (by decide +kernel) rfl (by first | rfl | assumption) hok.1 ?_
      refine zz_getI (q := 45) C gf_S_45 (by decide +kernel) rfl (by first | rfl | assumption) rfl ?_
      refine zz_iload_n (q := 46) (f := 1) (i := 1) C (by decide +kernel) rfl rfl rfl ?_
      refine zz_icmp_ne (off := 7) (tgt := 53) (q := 49) C (by decide +kernel) (by decide) rfl (fun c46 => ?_) (fun c46 => ?_)
      · refine zz_null (q := 54) C 2 (by decide +kernel) rfl ?_
        refine zz_aret C hr (Or.inl ⟨_, rfl⟩) hlk (by decide +kernel) hQ (by decide) (by decide) ?_
        first | (rw [if_pos (show sg_lv h o = lv from c46)] at hp; exact hp) | (rw [if_neg (show ¬ sg_lv h o = lv from c46)] at hp; exact hp)
      · refine zz_aload_n (q := 50) (f := 2) (i := 2) C (by decide +kernel) rfl rfl rfl ?_
        refine zz_goto (off := 4) (tgt := 54) C (by decide +kernel) (by decide) ?_
        refine zz_aret C hr (Or.inl ⟨_, rfl⟩) hlk (by decide +kernel) hQ (by decide) (by decide) ?_
        first | (rw [if_pos (show sg_lv h o = lv from c46)] at hp; exact hp) | (rw [if_neg (show ¬ sg_lv h o = lv from c46)] at hp; exact hp)
    have lp4 : ∀ n o, (∃ no, zz_tg h o = some (2, no)) → n ≤ 3 → post (some (zz_r 2 (if sg_lv h (sg_up h lv n o) = lv then some (sg_up h lv n o) else none))) h → zz_Z p l e { frames := 1, cells := 0, slots := 0, locals := 12 } s m args below meth c Q D DA (zz_A h s.heap.size) h 4 4 [some (zz_r 2 (some a)), some (zz_i lv), some (zz_r 2 (some o)), some (zz_i (nI (4 - n)))] [] h 0 0 := by
      intro n
      induction n with
      | zero =>
        intro o ho hn hp
        refine zz_iload_n (q := 5) (f := 3) (i := 3) C (by decide +kernel) rfl rfl rfl ?_
        refine zz_iconst (q := 6) (n := 4) (x := 4) C (by decide +kernel) rfl (by decide +kernel) ?_
        refine zz_icmp_ge (off := 32) (tgt := 38) (q := 9) C (by decide +kernel) (by decide) rfl (fun c6 => ?_) (fun c6 => absurd (by decide) c6)
        exact lp38 o _ ho hp
      | succ n ih =>
        intro o ho hn hp
        obtain ⟨no, hto⟩ := ho
        have hok := hwf o no hto
        have e2 : (nI (4 - (n + 1)) : Int32) + Int32.ofInt 1 = nI (4 - n) := by
          rw [show 4 - n = (4 - (n + 1)) + 1 by omega]
          exact (nI_succ _).symm
        refine zz_iload_n (q := 5) (f := 3) (i := 3) C (by decide +kernel) rfl rfl rfl ?_
        refine zz_iconst (q := 6) (n := 4) (x := 4) C (by decide +kernel) rfl (by decide +kernel) ?_
        refine zz_icmp_ge (off := 32) (tgt := 38) (q := 9) C (by decide +kernel) (by decide) rfl (fun c6 => ?_) (fun c6 => ?_)
        · -- AT 38
          first | exact absurd c6 (nI_ge (a := 4 - (n + 1)) (b := 4) (by omega) (by decide)) | exact lp38 o _ ⟨no, hto⟩ (by rw [sg_up_le (show sg_lv h o ≤ lv from c17)] at hp; exact hp) | exact lp38 o _ ⟨no, hto⟩ (by rw [sg_up_no c24] at hp; exact hp)
        · refine zz_aload_n (q := 10) (f := 2) (i := 2) C (by decide +kernel) rfl rfl rfl ?_
          refine zz_getR (q := 13) C gf_S_19 (by decide +kernel) rfl (by first | rfl | assumption) hok.1 ?_
          refine zz_getI (q := 16) C gf_S_45 (by decide +kernel) rfl (by first | rfl | assumption) rfl ?_
          refine zz_iload_n (q := 17) (f := 1) (i := 1) C (by decide +kernel) rfl rfl rfl ?_
          refine zz_icmp_le (off := 21) (tgt := 38) (q := 20) C (by decide +kernel) (by decide) rfl (fun c17 => ?_) (fun c17 => ?_)
          · -- AT 38
            first | exact absurd c6 (nI_ge (a := 4 - (n + 1)) (b := 4) (by omega) (by decide)) | exact lp38 o _ ⟨no, hto⟩ (by rw [sg_up_le (show sg_lv h o ≤ lv from c17)] at hp; exact hp) | exact lp38 o _ ⟨no, hto⟩ (by rw [sg_up_no c24] at hp; exact hp)
          · refine zz_aload_n (q := 21) (f := 2) (i := 2) C (by decide +kernel) rfl rfl rfl ?_
            refine zz_getR (q := 24) C gf_S_23 (by decide +kernel) rfl (by first | rfl | assumption) rfl ?_
            refine zz_ifnull (off := 14) (tgt := 38) (q := 27) C (by decide +kernel) (by decide) rfl (fun c24 => ?_) (fun a24 c24 => ?_)
            · -- AT 38
              first | exact absurd c6 (nI_ge (a := 4 - (n + 1)) (b := 4) (by omega) (by decide)) | exact lp38 o _ ⟨no, hto⟩ (by rw [sg_up_le (show sg_lv h o ≤ lv from c17)] at hp; exact hp) | exact lp38 o _ ⟨no, hto⟩ (by rw [sg_up_no c24] at hp; exact hp)
            · refine zz_aload_n (q := 28) (f := 2) (i := 2) C (by decide +kernel) rfl rfl rfl ?_
              refine zz_getR (q := 31) C gf_S_23 (by decide +kernel) rfl (by first | rfl | assumption) c24 ?_
              refine zz_astore_n (q := 32) (f := 2) (i := 2) C (by decide +kernel) rfl rfl (by decide) rfl ?_
              refine zz_iinc (q := 35) (i := 3) (n := 1) C (by decide +kernel) rfl rfl e2 (by decide) rfl ?_
              refine zz_goto (off := -31) (tgt := 4) C (by decide +kernel) (by decide) ?_
              -- AT 4
              have hb : ∃ nb, zz_tg h a24 = some (2, nb) := hty.1 o 2 no 2 2 hto (by decide) rfl a24 c24
              exact ih a24 hb (by omega) (by rw [sg_up_go (show ¬ sg_lv h o ≤ lv from c17) c24] at hp; exact hp)
    refine zz_aload_n (q := 1) (f := 0) (i := 0) C (by decide +kernel) rfl rfl rfl ?_
    refine zz_astore_n (q := 2) (f := 2) (i := 2) C (by decide +kernel) rfl rfl (by decide) rfl ?_
    refine zz_iconst (q := 3) (n := 1) (x := 1) C (by decide +kernel) rfl (by decide +kernel) ?_
    refine zz_istore_n (q := 4) (f := 3) (i := 3) C (by decide +kernel) rfl rfl (by decide) rfl ?_
    -- AT 4
    exact lp4 3 a ⟨na, hta⟩ (by omega) hp

def T_S_isInTreeOf : zz_Tr := fun as h post => ∃ a t, as = [zz_r 2 (some a), zz_r 2 (some t)] ∧ sg_wf h ∧ post (some (zz_i (zz_b (sg_at h (sg_lv h t) a = some t)))) h
set_option maxRecDepth 100000 in
set_option maxHeartbeats 4000000 in
theorem m_S_isInTreeOf (l : Launch) : zz_Met l y_S_isInTreeOf w_S_isInTreeOf { frames := 2, cells := 0, slots := 0, locals := 35 } T_S_isInTreeOf := by
  refine zz_ofZ (by decide) (fun as h post hT => ?_) ?_
  · obtain ⟨a, t, rfl, hwf, hp⟩ := hT
    exact ⟨by simp [zz_cat], by simp⟩
  · intro D DA h as post hT p e s m args below meth c Q C hr hlk hnm hQ
    obtain ⟨a, t, rfl, hwf, hp⟩ := hT
    refine zz_know (fun hty _ hTL _ => ?_)
    obtain ⟨nt, htt⟩ := hTL 1 _ rfl t rfl
    have hok := hwf t nt htt
    refine zz_aload_n (q := 1) (f := 0) (i := 0) C (by decide +kernel) rfl rfl rfl ?_
    refine zz_aload_n (q := 2) (f := 1) (i := 1) C (by decide +kernel) rfl rfl rfl ?_
    refine zz_getR (q := 5) C gf_S_19 (by decide +kernel) rfl (by first | rfl | assumption) hok.1 ?_
    refine zz_getI (q := 8) C gf_S_45 (by decide +kernel) rfl (by first | rfl | assumption) rfl ?_
    refine zz_callV (q := 11) C (m_S_atLevel l) cv_S_48 (by decide +kernel) rfl rfl rfl (by first | rfl | assumption) (by decide) (by decide) (by decide) ⟨_, _, rfl, hwf, ?_⟩
    refine zz_aload_n (q := 12) (f := 1) (i := 1) C (by decide +kernel) rfl rfl rfl ?_
    refine zz_acmp_ne (off := 7) (tgt := 19) (q := 15) C (by decide +kernel) (by decide) rfl (fun c12 => ?_) (fun c12 => ?_)
    · refine zz_iconst (q := 20) (n := 0) (x := 0) C (by decide +kernel) rfl (by decide +kernel) ?_
      refine zz_zret C hr hlk (by decide +kernel) (by decide) hQ (by decide) (by decide) ?_
      first | exact zz_b1 (P := fun x => post (some (zz_i x)) h) hp c12 | exact zz_b0 (P := fun x => post (some (zz_i x)) h) hp c12
    · refine zz_iconst (q := 16) (n := 1) (x := 1) C (by decide +kernel) rfl (by decide +kernel) ?_
      refine zz_goto (off := 4) (tgt := 20) C (by decide +kernel) (by decide) ?_
      refine zz_zret C hr hlk (by decide +kernel) (by decide) hQ (by decide) (by decide) ?_
      first | exact zz_b1 (P := fun x => post (some (zz_i x)) h) hp c12 | exact zz_b0 (P := fun x => post (some (zz_i x)) h) hp c12

def T_S_isBelow : zz_Tr := fun as h post => ∃ a t, as = [zz_r 2 (some a), zz_r 2 (some t)] ∧ sg_wf h ∧ post (some (zz_i (zz_b (a ≠ t ∧ sg_at h (sg_lv h t) a = some t)))) h
set_option maxRecDepth 100000 in
set_option maxHeartbeats 4000000 in
theorem m_S_isBelow (l : Launch) : zz_Met l y_S_isBelow w_S_isBelow { frames := 3, cells := 0, slots := 0, locals := 56 } T_S_isBelow := by
  refine zz_ofZ (by decide) (fun as h post hT => ?_) ?_
  · obtain ⟨a, t, rfl, hwf, hp⟩ := hT
    exact ⟨by simp [zz_cat], by simp⟩
  · intro D DA h as post hT p e s m args below meth c Q C hr hlk hnm hQ
    obtain ⟨a, t, rfl, hwf, hp⟩ := hT
    refine zz_aload_n (q := 1) (f := 0) (i := 0) C (by decide +kernel) rfl rfl rfl ?_
    refine zz_aload_n (q := 2) (f := 1) (i := 1) C (by decide +kernel) rfl rfl rfl ?_
    refine zz_acmp_eq (off := 15) (tgt := 17) (q := 5) C (by decide +kernel) (by decide) rfl (fun c2 => ?_) (fun c2 => ?_)
    · refine zz_iconst (q := 18) (n := 0) (x := 0) C (by decide +kernel) rfl (by decide +kernel) ?_
      refine zz_zret C hr hlk (by decide +kernel) (by decide) hQ (by decide) (by decide) ?_
      first | exact zz_b0 (P := fun x => post (some (zz_i x)) h) hp (fun z => z.1 (Option.some.inj c2)) | exact zz_b0 (P := fun x => post (some (zz_i x)) h) hp (fun z => zz_b_f c10 z.2) | exact zz_b1 (P := fun x => post (some (zz_i x)) h) hp ⟨fun z => c2 (by rw [z]), zz_b_t c10⟩
    · refine zz_aload_n (q := 6) (f := 0) (i := 0) C (by decide +kernel) rfl rfl rfl ?_
      refine zz_aload_n (q := 7) (f := 1) (i := 1) C (by decide +kernel) rfl rfl rfl ?_
      refine zz_callV (q := 10) C (m_S_isInTreeOf l) cv_S_52 (by decide +kernel) rfl rfl rfl (by first | rfl | assumption) (by decide) (by decide) (by decide) ⟨_, _, rfl, hwf, ?_⟩
      refine zz_if_eq (off := 7) (tgt := 17) (q := 13) C (by decide +kernel) (by decide) rfl (fun c10 => ?_) (fun c10 => ?_)
      · refine zz_iconst (q := 18) (n := 0) (x := 0) C (by decide +kernel) rfl (by decide +kernel) ?_
        refine zz_zret C hr hlk (by decide +kernel) (by decide) hQ (by decide) (by decide) ?_
        first | exact zz_b0 (P := fun x => post (some (zz_i x)) h) hp (fun z => z.1 (Option.some.inj c2)) | exact zz_b0 (P := fun x => post (some (zz_i x)) h) hp (fun z => zz_b_f c10 z.2) | exact zz_b1 (P := fun x => post (some (zz_i x)) h) hp ⟨fun z => c2 (by rw [z]), zz_b_t c10⟩
      · refine zz_iconst (q := 14) (n := 1) (x := 1) C (by decide +kernel) rfl (by decide +kernel) ?_
        refine zz_goto (off := 4) (tgt := 18) C (by decide +kernel) (by decide) ?_
        refine zz_zret C hr hlk (by decide +kernel) (by decide) hQ (by decide) (by decide) ?_
        first | exact zz_b0 (P := fun x => post (some (zz_i x)) h) hp (fun z => z.1 (Option.some.inj c2)) | exact zz_b0 (P := fun x => post (some (zz_i x)) h) hp (fun z => zz_b_f c10 z.2) | exact zz_b1 (P := fun x => post (some (zz_i x)) h) hp ⟨fun z => c2 (by rw [z]), zz_b_t c10⟩

def T_S_clearValue : zz_Tr := fun as h post => ∃ a, as = [zz_r 2 (some a)] ∧ post none (zz_pI (zz_pI h 2 5 a 0) 2 6 a 0)
set_option maxRecDepth 100000 in
set_option maxHeartbeats 4000000 in
theorem m_S_clearValue (l : Launch) : zz_Met l y_S_clearValue w_S_clearValue { frames := 1, cells := 0, slots := 0, locals := 12 } T_S_clearValue := by
  refine zz_ofZ (by decide) (fun as h post hT => ?_) ?_
  · obtain ⟨a, rfl, hp⟩ := hT
    exact ⟨by simp [zz_cat], by simp⟩
  · intro D DA h as post hT p e s m args below meth c Q C hr hlk hnm hQ
    obtain ⟨a, rfl, hp⟩ := hT
    refine zz_aload_n (q := 1) (f := 0) (i := 0) C (by decide +kernel) rfl rfl rfl ?_
    refine zz_iconst (q := 2) (n := 0) (x := 0) C (by decide +kernel) rfl (by decide +kernel) ?_
    refine zz_putI (q := 5) C gf_S_56 (fun h => by cases h) (fun _ => Or.inl rfl) (by decide +kernel) rfl (by first | rfl | assumption) ?_
    refine zz_aload_n (q := 6) (f := 0) (i := 0) C (by decide +kernel) rfl rfl rfl ?_
    refine zz_iconst (q := 7) (n := 0) (x := 0) C (by decide +kernel) rfl (by decide +kernel) ?_
    refine zz_putI (q := 10) C gf_S_60 (fun h => by cases h) (fun h => by cases h) (by decide +kernel) rfl (by first | rfl | assumption) ?_
    refine zz_vret C hr hlk (by decide +kernel) hQ (by decide) (by decide) ?_
    exact hp

def T_S_offerValue : zz_Tr := fun as h post => ∃ a v, as = [zz_r 2 (some a), zz_i v] ∧ post none (if zz_fI h 2 5 a = 0 ∨ v < zz_fI h 2 6 a then zz_pI (zz_pI h 2 5 a 1) 2 6 a v else h)
set_option maxRecDepth 100000 in
set_option maxHeartbeats 4000000 in
theorem m_S_offerValue (l : Launch) : zz_Met l y_S_offerValue w_S_offerValue { frames := 1, cells := 0, slots := 0, locals := 12 } T_S_offerValue := by
  refine zz_ofZ (by decide) (fun as h post hT => ?_) ?_
  · obtain ⟨a, v, rfl, hp⟩ := hT
    exact ⟨by simp [zz_cat], by simp⟩
  · intro D DA h as post hT p e s m args below meth c Q C hr hlk hnm hQ
    obtain ⟨a, v, rfl, hp⟩ := hT
    refine zz_aload_n (q := 1) (f := 0) (i := 0) C (by decide +kernel) rfl rfl rfl ?_
    refine zz_getI (q := 4) C gf_S_56 (by decide +kernel) rfl (by first | rfl | assumption) rfl ?_
    refine zz_if_eq (off := 11) (tgt := 15) (q := 7) C (by decide +kernel) (by decide) rfl (fun c4 => ?_) (fun c4 => ?_)
    · refine zz_aload_n (q := 16) (f := 0) (i := 0) C (by decide +kernel) rfl rfl rfl ?_
      refine zz_iconst (q := 17) (n := 1) (x := 1) C (by decide +kernel) rfl (by decide +kernel) ?_
      refine zz_putI (q := 20) C gf_S_56 (fun h => by cases h) (fun _ => Or.inr rfl) (by decide +kernel) rfl (by first | rfl | assumption) ?_
      refine zz_aload_n (q := 21) (f := 0) (i := 0) C (by decide +kernel) rfl rfl rfl ?_
      refine zz_iload_n (q := 22) (f := 1) (i := 1) C (by decide +kernel) rfl rfl rfl ?_
      refine zz_putI (q := 25) C gf_S_60 (fun h => by cases h) (fun h => by cases h) (by decide +kernel) rfl (by first | rfl | assumption) ?_
      refine zz_vret C hr hlk (by decide +kernel) hQ (by decide) (by decide) ?_
      first | (rw [if_pos (Or.inl c4)] at hp; exact hp) | (rw [if_pos (Or.inr (Int32.not_le.mp c12))] at hp; exact hp) | (rw [if_neg (fun z => z.elim c4 (fun w => Int32.not_le.mpr w c12))] at hp; exact hp)
    · refine zz_iload_n (q := 8) (f := 1) (i := 1) C (by decide +kernel) rfl rfl rfl ?_
      refine zz_aload_n (q := 9) (f := 0) (i := 0) C (by decide +kernel) rfl rfl rfl ?_
      refine zz_getI (q := 12) C gf_S_60 (by decide +kernel) rfl (by first | rfl | assumption) rfl ?_
      refine zz_icmp_ge (off := 13) (tgt := 25) (q := 15) C (by decide +kernel) (by decide) rfl (fun c12 => ?_) (fun c12 => ?_)
      · refine zz_vret C hr hlk (by decide +kernel) hQ (by decide) (by decide) ?_
        first | (rw [if_pos (Or.inl c4)] at hp; exact hp) | (rw [if_pos (Or.inr (Int32.not_le.mp c12))] at hp; exact hp) | (rw [if_neg (fun z => z.elim c4 (fun w => Int32.not_le.mpr w c12))] at hp; exact hp)
      · refine zz_aload_n (q := 16) (f := 0) (i := 0) C (by decide +kernel) rfl rfl rfl ?_
        refine zz_iconst (q := 17) (n := 1) (x := 1) C (by decide +kernel) rfl (by decide +kernel) ?_
        refine zz_putI (q := 20) C gf_S_56 (fun h => by cases h) (fun _ => Or.inr rfl) (by decide +kernel) rfl (by first | rfl | assumption) ?_
        refine zz_aload_n (q := 21) (f := 0) (i := 0) C (by decide +kernel) rfl rfl rfl ?_
        refine zz_iload_n (q := 22) (f := 1) (i := 1) C (by decide +kernel) rfl rfl rfl ?_
        refine zz_putI (q := 25) C gf_S_60 (fun h => by cases h) (fun h => by cases h) (by decide +kernel) rfl (by first | rfl | assumption) ?_
        refine zz_vret C hr hlk (by decide +kernel) hQ (by decide) (by decide) ?_
        first | (rw [if_pos (Or.inl c4)] at hp; exact hp) | (rw [if_pos (Or.inr (Int32.not_le.mp c12))] at hp; exact hp) | (rw [if_neg (fun z => z.elim c4 (fun w => Int32.not_le.mpr w c12))] at hp; exact hp)

/-! SegmentTrees: insert -/
def in_par (h : zz_H) (a k : Nat) (par : Option Nat) : Prop := (zz_fR h 1 1 k = none ∧ par = none) ∨ ∃ pk lv s9, zz_fR h 1 1 k = some pk ∧ lv ≤ 4 ∧ zz_fI h 1 2 pk = nI lv ∧ or_first (or_s h (t_od h a)) 0 (or_fp h (t_od h a) pk (t_pa h a) lv) (or_N h (t_od h a)) (some s9) ∧ par = some s9
def in_nop (h : zz_H) (a k : Nat) : Prop := ∃ pk lv, zz_fR h 1 1 k = some pk ∧ lv ≤ 4 ∧ zz_fI h 1 2 pk = nI lv ∧ or_first (or_s h (t_od h a)) 0 (or_fp h (t_od h a) pk (t_pa h a) lv) (or_N h (t_od h a)) none
def in_dup (h : zz_H) (a k : Nat) (par : Option Nat) : Prop := zz_fI h 1 5 k ≠ 0 ∧ ∃ i, i < or_s h (t_od h a) ∧ or_sb h (t_od h a) (some k) par (t_ww h a) i
def in_h3 (h : zz_H) (a f wd k : Nat) (par : Option Nat) : zz_H := zz_pR (zz_pR (zz_pI (zz_pR (zz_newA (zz_new (zz_pI (t_h0 h a) 0 7 a (zz_fI h 0 7 a + 1)) 2 f) 90 4 wd) 2 3 f (some wd)) 2 0 f (zz_fI h 0 7 a + 1)) 2 1 f (some k)) 2 2 f par
def in_h4 (h : zz_H) (a f wd k : Nat) (par : Option Nat) : zz_H := t_tw (in_h3 h a f wd k par) a f
def in_h5 (h4 : zz_H) (a f : Nat) (r : Option Nat) : zz_H := match r with
  | none => h4
  | some s => t_jn h4 a f s
theorem in_num (h : zz_H) (a f : Nat) (v : Int32) : zz_fI (zz_new (zz_pI h 0 7 a v) 2 f) 0 7 a = v := if_pos ⟨rfl, rfl, rfl⟩
section IN
variable {h : zz_H} {a f wd k : Nat} {par : Option Nat}
theorem in_tg {x : Nat} {t : Nat × Nat} (hf : zz_tg h f = none) (hw : zz_tg (zz_new h 2 f) wd = none) (hx : zz_tg h x = some t) : zz_tg (in_h3 h a f wd k par) x = some t := zz_tg_old (h := zz_new (zz_pI (t_h0 h a) 0 7 a (zz_fI h 0 7 a + 1)) 2 f) (zz_tg_oldO (h := zz_pI (t_h0 h a) 0 7 a (zz_fI h 0 7 a + 1)) hx hf) hw
theorem in_fw (hw : zz_tg (zz_new h 2 f) wd = none) : f ≠ wd := fun z => by
  rw [← z, zz_tg_new, if_pos rfl] at hw
  cases hw
theorem in_tg9 {x : Nat} {t : Nat × Nat} (hx : zz_tg (in_h3 h a f wd k par) x = some t) : x = wd ∧ t = (90, 4) ∨ x = f ∧ t = (2, 0) ∨ zz_tg h x = some t := by
  have hx : (if x = wd then some (90, 4) else if x = f then some (2, 0) else zz_tg h x) = some t := hx
  by_cases h1 : x = wd
  · rw [if_pos h1] at hx; exact Or.inl ⟨h1, (Option.some.inj hx).symm⟩
  · rw [if_neg h1] at hx
    by_cases h2 : x = f
    · rw [if_pos h2] at hx; exact Or.inr (Or.inl ⟨h2, (Option.some.inj hx).symm⟩)
    · rw [if_neg h2] at hx; exact Or.inr (Or.inr hx)
theorem in_r {x : Nat} (hx : x ≠ f) (j : Nat) : zz_fR (in_h3 h a f wd k par) 2 j x = zz_fR h 2 j x := by
  show (if 2 = 2 ∧ j = 2 ∧ x = f then par else if 2 = 2 ∧ j = 1 ∧ x = f then some k else if 2 = 2 ∧ j = 3 ∧ x = f then some wd else if 2 = 2 ∧ x = f then none else zz_fR h 2 j x) = _
  rw [if_neg (fun z => hx z.2.2), if_neg (fun z => hx z.2.2), if_neg (fun z => hx z.2.2), if_neg (fun z => hx z.2)]
theorem in_i {x : Nat} (hx : x ≠ f) (j : Nat) : zz_fI (in_h3 h a f wd k par) 2 j x = zz_fI h 2 j x := by
  show (if 2 = 2 ∧ j = 0 ∧ x = f then zz_fI h 0 7 a + 1 else if 2 = 2 ∧ x = f then 0 else zz_fI h 2 j x) = _
  rw [if_neg (fun z => hx z.2.2), if_neg (fun z => hx z.2)]
theorem in_f1 : zz_fR (in_h3 h a f wd k par) 2 1 f = some k := if_pos ⟨rfl, rfl, rfl⟩
theorem in_f3 : zz_fR (in_h3 h a f wd k par) 2 3 f = some wd := if_pos ⟨rfl, rfl, rfl⟩
theorem in_f2 : zz_fR (in_h3 h a f wd k par) 2 2 f = par := if_pos ⟨rfl, rfl, rfl⟩
theorem in_f4 : zz_fR (in_h3 h a f wd k par) 2 4 f = none := if_pos ⟨rfl, rfl⟩
theorem in_f5 : zz_fI (in_h3 h a f wd k par) 2 5 f = 0 := if_pos ⟨rfl, rfl⟩
theorem in_f0 : zz_fI (in_h3 h a f wd k par) 2 0 f = zz_fI h 0 7 a + 1 := if_pos ⟨rfl, rfl, rfl⟩
theorem in_wd : zz_tg (in_h3 h a f wd k par) wd = some (90, 4) := if_pos rfl
theorem in_okf : sg_ok (in_h3 h a f wd k par) f := by
  have e1 : sg_k (in_h3 h a f wd k par) f = k := by rw [sg_k, in_f1]; rfl
  have e3 : sg_w (in_h3 h a f wd k par) f = wd := by rw [sg_w, in_f3]; rfl
  exact ⟨by rw [e1]; exact in_f1, by rw [e3]; exact in_f3, by rw [e3]; exact in_wd, Or.inl in_f5⟩
theorem in_wf (hf : zz_tg h f = none) (hw : zz_tg (zz_new h 2 f) wd = none) (hwf : sg_wf h) : sg_wf (in_h3 h a f wd k par) := fun x n hx => by
  by_cases hxf : x = f
  · rw [hxf]; exact in_okf
  · rcases in_tg9 hx with ⟨-, z⟩ | ⟨z, -⟩ | z
    · exact absurd (congrArg Prod.fst z) (show ¬ (2 : Nat) = 90 by decide)
    · exact absurd z hxf
    · obtain ⟨h1, h2, h3, h4⟩ := hwf x n z
      have e1 : sg_k (in_h3 h a f wd k par) x = sg_k h x := by rw [sg_k, in_r hxf]; rfl
      have e3 : sg_w (in_h3 h a f wd k par) x = sg_w h x := by rw [sg_w, in_r hxf]; rfl
      refine ⟨?_, ?_, ?_, ?_⟩
      · rw [e1, in_r hxf]; exact h1
      · rw [e3, in_r hxf]; exact h2
      · rw [e3]; exact in_tg hf hw h3
      · rw [in_i hxf]; exact h4
theorem in_kw (hkw : kd_wf h) : kd_wf (in_h3 h a f wd k par) := fun x n hx => by
  rcases in_tg9 hx with ⟨-, z⟩ | ⟨-, z⟩ | z
  · exact absurd (congrArg Prod.fst z) (show ¬ (1 : Nat) = 90 by decide)
  · exact absurd (congrArg Prod.fst z) (show ¬ (1 : Nat) = 2 by decide)
  · exact hkw x n z
theorem in_ok (hf : zz_tg h f = none) (hw : zz_tg (zz_new h 2 f) wd = none) {d : Nat} (hok : or_ok h d) : or_ok (in_h3 h a f wd k par) d := ⟨hok.1, hok.2.1, in_tg hf hw hok.2.2.1, in_tg hf hw hok.2.2.2.1, hok.2.2.2.2.1, hok.2.2.2.2.2.1, hok.2.2.2.2.2.2⟩
theorem in_aR (hw : zz_tg (zz_new h 2 f) wd = none) (hf : zz_tg h f = none) {b : Nat} {t : Nat × Nat} (hb : zz_tg h b = some t) (i : Nat) : zz_aR (in_h3 h a f wd k par) b i = zz_aR h b i := if_neg (zz_tg_ne (h := zz_new h 2 f) (zz_tg_oldO hb hf) hw)
theorem in_okN (hf : zz_tg h f = none) (hw : zz_tg (zz_new h 2 f) wd = none) {d : Nat} (hok : or_okN h d) : or_okN (in_h3 h a f wd k par) d := ⟨in_ok hf hw hok.1, fun i hi => by
  have e : zz_aR (in_h3 h a f wd k par) (or_n h d) i = zz_aR h (or_n h d) i := in_aR hw hf hok.1.2.2.2.1 i
  have e2 : or_N (in_h3 h a f wd k par) d i = or_N h d i := congrArg (fun z => z.getD 0) e
  rw [e2]
  exact e.trans (hok.2 i hi)⟩
theorem in_okB (hf : zz_tg h f = none) (hw : zz_tg (zz_new h 2 f) wd = none) {d : Nat} (hok : or_okB h d) : or_okB (in_h3 h a f wd k par) d := ⟨in_ok hf hw hok.1, fun i hi => by
  have e : zz_aR (in_h3 h a f wd k par) (or_b h d) i = zz_aR h (or_b h d) i := in_aR hw hf hok.1.2.2.1 i
  have e2 : or_B (in_h3 h a f wd k par) d i = or_B h d i := congrArg (fun z => z.getD 0) e
  rw [e2]
  exact e.trans (hok.2 i hi)⟩
theorem in_tok (hf : zz_tg h f = none) (hw : zz_tg (zz_new h 2 f) wd = none) (hok : t_ok h a) : t_ok (in_h3 h a f wd k par) a := ⟨hok.1, hok.2.1, hok.2.2.1, hok.2.2.2.1, hok.2.2.2.2.1, in_tg hf hw hok.2.2.2.2.2.1, in_tg hf hw hok.2.2.2.2.2.2⟩
end IN
def B_T_insert : zz_TB := fun as h post postX => ∃ a t, as = [zz_r 0 (some a), zz_i t] ∧ t_wf h a ∧ or_okB h (t_od h a) ∧ or_sw h (t_od h a) ∧ kd_lv h ∧ (t_k h a t = none → postX "java/lang/IllegalArgumentException" (t_h0 h a)) ∧ ∀ k, t_k h a t = some k → (in_nop h a k → post (some (zz_i (-2))) (t_h0 h a)) ∧ ∀ par, in_par h a k par → (in_dup h a k par → post (some (zz_i (-3))) (t_h0 h a)) ∧ (¬ in_dup h a k par → (60 ≤ or_s h (t_od h a) → post (some (zz_i (-4))) (t_h0 h a)) ∧ (or_s h (t_od h a) < 60 → ∀ f wd r to h6, zz_tg h f = none → zz_tg (zz_new h 2 f) wd = none → or_best (in_h4 h a f wd k par) (or_s (in_h4 h a f wd k par) (t_od h a)) (or_tw (in_h4 h a f wd k par) (t_od h a) f) (or_N (in_h4 h a f wd k par) (t_od h a)) r → or_entry (in_h5 (in_h4 h a f wd k par) a f r) (t_od h a) f to → or_arr (or_is (in_h5 (in_h4 h a f wd k par) a f r) (t_od h a) f to) (t_od h a) h6 → post (some (zz_i (zz_fI h 0 7 a + 1))) (zz_pI (zz_pI (zz_pR h6 6 0 (t_ps h a) (some f)) 6 1 (t_ps h a) 1) 6 2 (t_ps h a) 0)))
set_option maxRecDepth 100000 in
set_option maxHeartbeats 4000000 in
theorem m_T_insert (l : Launch) : zz_Met l y_T_insert w_T_insert { frames := 7, cells := 3, slots := 17, locals := 148 } (fun as h post => B_T_insert as h post (fun _ _ => False)) := by
  refine zz_ofZ (by decide) (fun as h post hT => ?_) ?_
  · obtain ⟨a, t, rfl, hwf, hob, hsw, hlv, hpX, hp⟩ := hT
    exact ⟨by simp [zz_cat], by simp⟩
  · intro D DA h as post hT p e s m args below meth c Q C hr hlk hnm hQ
    obtain ⟨a, t, rfl, hwf, hob, hsw, hlv, hpX, hp⟩ := hT
    have lp69 : ∀ k par, t_k h a t = some k → in_par h a k par → ¬ in_dup h a k par → zz_Z p l e { frames := 7, cells := 3, slots := 17, locals := 148 } s m args below meth c Q D DA (zz_A h s.heap.size) h 5 69 [some (zz_r 0 (some a)), some (zz_i t), some (zz_r 1 (some k)), some (zz_r 2 par), none] [] (t_h0 h a) 1 6 := by
      intro k par hk hpar hnd
      have hok0 : t_ok (t_h0 h a) a := hwf.1
      have hwf0 : t_wf (t_h0 h a) a := hwf
      refine zz_know (fun hty _ hTL _ => ?_)
      obtain ⟨nk, htk⟩ := hTL 2 _ rfl _ rfl
      refine zz_aload_n (q := 70) (f := 0) (i := 0) C (by decide +kernel) rfl rfl rfl ?_
      refine zz_getR (q := 73) C gf_T_29 (by decide +kernel) rfl (by first | rfl | assumption) hwf.1.2.2.2.1 ?_
      refine zz_getI (q := 76) C gf_T_191 (by decide +kernel) rfl (by first | rfl | assumption) hwf.2.1.1.2.2.2.2.2.2 ?_
      refine zz_bipush (q := 78) (n := 60) (x := 60) C (by decide +kernel) rfl (by decide +kernel) ?_
      refine zz_icmp_lt (off := 6) (tgt := 84) (q := 81) C (by decide +kernel) (by decide) rfl (fun c78 => ?_) (fun c78 => ?_)
      · have hb60 := hwf.2.1.1.2.2.2.2.2.1
        have hs60 : or_s h (t_od h a) < 60 := (nI_ltI (by omega) (by decide)).mp c78
        refine zz_aload_n (q := 85) (f := 0) (i := 0) C (by decide +kernel) rfl rfl rfl ?_
        refine zz_dup (q := 86) C (by decide +kernel) rfl rfl ?_
        refine zz_getI (q := 89) C gf_T_194 (by decide +kernel) rfl (by first | rfl | assumption) rfl ?_
        refine zz_iconst (q := 90) (n := 1) (x := 1) C (by decide +kernel) rfl (by decide +kernel) ?_
        refine zz_iadd (q := 91) C (by decide +kernel) rfl rfl ?_
        refine zz_putI (q := 94) C gf_T_194 (fun h => by cases h) (fun h => by cases h) (by decide +kernel) rfl (by first | rfl | assumption) ?_
        refine zz_newO (q := 97) (ci := 2) C rfl kl_T_157 ni_S nj_S (by decide +kernel) rfl (by decide) (by decide) (fun a94 n94 => ?_)
        refine zz_dup (q := 98) C (by decide +kernel) rfl rfl ?_
        refine zz_aload_n (q := 99) (f := 0) (i := 0) C (by decide +kernel) rfl rfl rfl ?_
        refine zz_getI (q := 102) C gf_T_194 (by decide +kernel) rfl (by first | rfl | assumption) (in_num _ _ _ _) ?_
        refine zz_aload_n (q := 103) (f := 2) (i := 2) C (by decide +kernel) rfl rfl rfl ?_
        refine zz_aload_n (q := 104) (f := 3) (i := 3) C (by decide +kernel) rfl rfl rfl ?_
        refine zz_callI (q := 107) C (m_S_init l) ci_T_197 (by decide +kernel) rfl rfl rfl (by first | rfl | assumption) (by decide) (by decide) (Nat.le_of_ble_eq_true rfl) ⟨_, _, _, _, rfl, fun wd hwd => ?_⟩
        show zz_Z p l e _ s m args below meth c Q D DA (zz_A h s.heap.size) h _ _ _ _ (in_h3 h a a94 wd k par) _ _
        have n94 : zz_tg h a94 = none := n94
        have hwd : zz_tg (zz_new h 2 a94) wd = none := hwd
        have ek : sg_k (in_h3 h a a94 wd k par) a94 = k := by rw [sg_k, in_f1]; rfl
        have hkk : kd_ok (in_h3 h a a94 wd k par) (sg_k (in_h3 h a a94 wd k par) a94) := by rw [ek]; exact hwf.2.2.2.2 k nk htk
        have tok3 := in_tok (k := k) (par := par) n94 hwd hwf.1
        have wf3 := in_wf (a := a) (k := k) (par := par) n94 hwd hwf.2.2.2.1
        have kw3 := in_kw (a := a) (f := a94) (wd := wd) (k := k) (par := par) hwf.2.2.2.2
        have okN3 := in_okN (a := a) (k := k) (par := par) n94 hwd hwf.2.1
        have okB3 := in_okB (a := a) (k := k) (par := par) n94 hwd hob
        refine zz_astore (q := 109) (i := 4) C (by decide +kernel) rfl (by decide) rfl ?_
        refine zz_aload (q := 111) (i := 4) C (by decide +kernel) rfl rfl ?_
        refine zz_aload_n (q := 112) (f := 0) (i := 0) C (by decide +kernel) rfl rfl rfl ?_
        refine zz_getR (q := 115) C gf_T_15 (by decide +kernel) rfl (by first | rfl | assumption) hwf.1.2.1 ?_
        refine zz_callV (q := 118) C (m_S_takeWords l) cv_T_200 (by decide +kernel) rfl rfl rfl (by first | rfl | assumption) (by decide) (by decide) (Nat.le_of_ble_eq_true rfl) ⟨_, _, rfl, in_okf, hkk, tok3.2.2.2.2.2.2, ?_⟩
        show zz_Z p l e _ s m args below meth c Q D DA (zz_A h s.heap.size) h _ _ _ _ (in_h4 h a a94 wd k par) _ _
        refine zz_aload_n (q := 119) (f := 0) (i := 0) C (by decide +kernel) rfl rfl rfl ?_
        refine zz_aload (q := 121) (i := 4) C (by decide +kernel) rfl rfl ?_
        refine zz_callV (q := 124) C (m_T_joinTwin l) cv_T_204 (by decide +kernel) rfl rfl rfl (by first | rfl | assumption) (by decide) (by decide) (Nat.le_of_ble_eq_true rfl) ⟨_, _, rfl, tok3, okN3, wf3, kw3, fun r hr9 => ⟨fun z => ?_, fun s9 z => ?_⟩⟩
        · subst z
          have sm5 : zz_fI (in_h4 h a a94 wd k par) 2 0 a94 = zz_fI h 0 7 a + 1 := in_f0 (k := k) (par := par)
          refine zz_aload_n (q := 125) (f := 0) (i := 0) C (by decide +kernel) rfl rfl rfl ?_
          refine zz_getR (q := 128) C gf_T_29 (by decide +kernel) rfl (by first | rfl | assumption) hwf.1.2.2.2.1 ?_
          refine zz_aload (q := 130) (i := 4) C (by decide +kernel) rfl rfl ?_
          refine zz_callV (q := 133) C (m_O_enter l) cv_T_208 (by decide +kernel) rfl rfl rfl (by first | rfl | assumption) (by decide) (by decide) (Nat.le_of_ble_eq_true rfl) ⟨_, _, rfl, okB3, hs60, wf3, kw3, hsw, fun to h6 e1 e2 => ?_⟩
          have sm6 := or_sm_tr (or_is_sm _ _ _ _) (or_sm_arr e2).1
          have hps : zz_fR h6 0 4 a = some (t_ps h a) := (sm6.2.2.2.1 0 4 a (by decide)).trans hwf.1.2.2.2.2.1
          have hnb : zz_fI h6 2 0 a94 = zz_fI h 0 7 a + 1 := (sm6.2.1 2 0 a94 (by decide) (by decide)).trans sm5
          refine zz_aload_n (q := 134) (f := 0) (i := 0) C (by decide +kernel) rfl rfl rfl ?_
          refine zz_getR (q := 137) C gf_T_36 (by decide +kernel) rfl (by first | rfl | assumption) hps ?_
          refine zz_aload (q := 139) (i := 4) C (by decide +kernel) rfl rfl ?_
          refine zz_callV (q := 142) C (m_Q_standAt l) cv_T_211 (by decide +kernel) rfl rfl rfl (by first | rfl | assumption) (by decide) (by decide) (Nat.le_of_ble_eq_true rfl) ⟨_, _, rfl, ?_⟩
          refine zz_aload (q := 144) (i := 4) C (by decide +kernel) rfl rfl ?_
          refine zz_getI (q := 147) C gf_T_156 (by decide +kernel) rfl (by first | rfl | assumption) hnb ?_
          refine zz_iret C hr hlk (by decide +kernel) hQ (by decide) (by decide) ?_
          exact ((hp k hk).2 par hpar).2 hnd |>.2 hs60 a94 wd none to h6 n94 hwd hr9 e1 e2
        · subst z
          show zz_Z p l e _ s m args below meth c Q D DA (zz_A h s.heap.size) h _ _ _ _ (t_jn (in_h4 h a a94 wd k par) a a94 s9) _ _
          have sm5 : zz_fI (t_jn (in_h4 h a a94 wd k par) a a94 s9) 2 0 a94 = zz_fI h 0 7 a + 1 := in_f0 (k := k) (par := par)
          refine zz_aload_n (q := 125) (f := 0) (i := 0) C (by decide +kernel) rfl rfl rfl ?_
          refine zz_getR (q := 128) C gf_T_29 (by decide +kernel) rfl (by first | rfl | assumption) hwf.1.2.2.2.1 ?_
          refine zz_aload (q := 130) (i := 4) C (by decide +kernel) rfl rfl ?_
          refine zz_callV (q := 133) C (m_O_enter l) cv_T_208 (by decide +kernel) rfl rfl rfl (by first | rfl | assumption) (by decide) (by decide) (Nat.le_of_ble_eq_true rfl) ⟨_, _, rfl, okB3, hs60, wf3, kw3, hsw, fun to h6 e1 e2 => ?_⟩
          have sm6 := or_sm_tr (or_is_sm _ _ _ _) (or_sm_arr e2).1
          have hps : zz_fR h6 0 4 a = some (t_ps h a) := (sm6.2.2.2.1 0 4 a (by decide)).trans hwf.1.2.2.2.2.1
          have hnb : zz_fI h6 2 0 a94 = zz_fI h 0 7 a + 1 := (sm6.2.1 2 0 a94 (by decide) (by decide)).trans sm5
          refine zz_aload_n (q := 134) (f := 0) (i := 0) C (by decide +kernel) rfl rfl rfl ?_
          refine zz_getR (q := 137) C gf_T_36 (by decide +kernel) rfl (by first | rfl | assumption) hps ?_
          refine zz_aload (q := 139) (i := 4) C (by decide +kernel) rfl rfl ?_
          refine zz_callV (q := 142) C (m_Q_standAt l) cv_T_211 (by decide +kernel) rfl rfl rfl (by first | rfl | assumption) (by decide) (by decide) (Nat.le_of_ble_eq_true rfl) ⟨_, _, rfl, ?_⟩
          refine zz_aload (q := 144) (i := 4) C (by decide +kernel) rfl rfl ?_
          refine zz_getI (q := 147) C gf_T_156 (by decide +kernel) rfl (by first | rfl | assumption) hnb ?_
          refine zz_iret C hr hlk (by decide +kernel) hQ (by decide) (by decide) ?_
          exact ((hp k hk).2 par hpar).2 hnd |>.2 hs60 a94 wd (some s9) to h6 n94 hwd hr9 e1 e2
      · refine zz_bipush (q := 83) (n := -4) (x := (-4)) C (by decide +kernel) rfl (by decide +kernel) ?_
        refine zz_iret C hr hlk (by decide +kernel) hQ (by decide) (by decide) ?_
        exact (((hp k hk).2 par hpar).2 hnd).1 (Nat.le_of_not_lt (fun z => c78 (nI_lt (b := 60) z (by decide))))
    have lp43 : ∀ k par, t_k h a t = some k → in_par h a k par → zz_Z p l e { frames := 7, cells := 3, slots := 17, locals := 148 } s m args below meth c Q D DA (zz_A h s.heap.size) h 5 43 [some (zz_r 0 (some a)), some (zz_i t), some (zz_r 1 (some k)), some (zz_r 2 par), none] [] (t_h0 h a) 1 6 := by
      intro k par hk hpar
      have hok0 : t_ok (t_h0 h a) a := hwf.1
      have hwf0 : t_wf (t_h0 h a) a := hwf
      refine zz_aload_n (q := 44) (f := 2) (i := 2) C (by decide +kernel) rfl rfl rfl ?_
      refine zz_getI (q := 47) C gf_T_183 (by decide +kernel) rfl (by first | rfl | assumption) rfl ?_
      refine zz_if_eq (off := 22) (tgt := 69) (q := 50) C (by decide +kernel) (by decide) rfl (fun c47 => ?_) (fun c47 => ?_)
      · -- AT 69
        first
          | exact lp69 k par hk hpar (fun z => z.1 c47)
          | exact lp69 k par hk hpar (fun z => zz_b_f c63 z.2)
      · refine zz_aload_n (q := 51) (f := 0) (i := 0) C (by decide +kernel) rfl rfl rfl ?_
        refine zz_getR (q := 54) C gf_T_29 (by decide +kernel) rfl (by first | rfl | assumption) hwf.1.2.2.2.1 ?_
        refine zz_aload_n (q := 55) (f := 2) (i := 2) C (by decide +kernel) rfl rfl rfl ?_
        refine zz_aload_n (q := 56) (f := 3) (i := 3) C (by decide +kernel) rfl rfl rfl ?_
        refine zz_aload_n (q := 57) (f := 0) (i := 0) C (by decide +kernel) rfl rfl rfl ?_
        refine zz_getR (q := 60) C gf_T_15 (by decide +kernel) rfl (by first | rfl | assumption) hwf.1.2.1 ?_
        refine zz_callV (q := 63) C (m_O_hasSibling l) cv_T_187 (by decide +kernel) rfl rfl rfl (by first | rfl | assumption) (by decide) (by decide) (Nat.le_of_ble_eq_true rfl) ⟨_, _, _, _, rfl, hwf.1.2.2.2.2.2.2, hwf0.2.1, hwf.2.2.2.1, hwf.2.2.2.2, ?_⟩
        refine zz_if_eq (off := 6) (tgt := 69) (q := 66) C (by decide +kernel) (by decide) rfl (fun c63 => ?_) (fun c63 => ?_)
        · -- AT 69
          first
            | exact lp69 k par hk hpar (fun z => z.1 c47)
            | exact lp69 k par hk hpar (fun z => zz_b_f c63 z.2)
        · refine zz_bipush (q := 68) (n := -3) (x := (-3)) C (by decide +kernel) rfl (by decide +kernel) ?_
          refine zz_iret C hr hlk (by decide +kernel) hQ (by decide) (by decide) ?_
          exact ((hp k hk).2 par hpar).1 ⟨c47, zz_b_t c63⟩
    refine zz_aload_n (q := 1) (f := 0) (i := 0) C (by decide +kernel) rfl rfl rfl ?_
    refine zz_null (q := 2) C 2 (by decide +kernel) rfl ?_
    refine zz_putR (q := 5) C gf_T_40 (fun h => by cases h) (by decide +kernel) rfl (by first | rfl | assumption) ?_
    show zz_Z p l e _ s m args below meth c Q D DA (zz_A h s.heap.size) h _ _ _ _ (t_h0 h a) 0 0
    have hok0 : t_ok (t_h0 h a) a := hwf.1
    have hwf0 : t_wf (t_h0 h a) a := hwf
    refine zz_aload_n (q := 6) (f := 0) (i := 0) C (by decide +kernel) rfl rfl rfl ?_
    refine zz_iload_n (q := 7) (f := 1) (i := 1) C (by decide +kernel) rfl rfl rfl ?_
    rcases opt_em (t_k h a t) with tc7 | ⟨tk7, tc7⟩
    · exact False.elim (hpX tc7)
    refine zz_callV (q := 10) C (m_T_declaredKind l) cv_T_78 (by decide +kernel) rfl rfl rfl (by first | rfl | assumption) (by decide) (by decide) (Nat.le_of_ble_eq_true rfl) ⟨_, _, rfl, hok0, fun z => absurd (tc7.symm.trans z) (Option.some_ne_none _), fun k9 hk9 => ?_⟩
    obtain rfl := Option.some.inj (tc7.symm.trans hk9)
    refine zz_astore_n (q := 11) (f := 2) (i := 2) C (by decide +kernel) rfl rfl (by decide) rfl ?_
    refine zz_know (fun hty _ hTL _ => ?_)
    obtain ⟨nk, htk⟩ := hTL 2 _ rfl _ rfl
    refine zz_null (q := 12) C 2 (by decide +kernel) rfl ?_
    refine zz_astore_n (q := 13) (f := 3) (i := 3) C (by decide +kernel) rfl rfl (by decide) rfl ?_
    refine zz_aload_n (q := 14) (f := 2) (i := 2) C (by decide +kernel) rfl rfl rfl ?_
    refine zz_getR (q := 17) C gf_T_103 (by decide +kernel) rfl (by first | rfl | assumption) rfl ?_
    refine zz_ifnull (off := 26) (tgt := 43) (q := 20) C (by decide +kernel) (by decide) rfl (fun c17 => ?_) (fun a17 c17 => ?_)
    · -- AT 43
      first
        | exact lp43 tk7 none tc7 (Or.inl ⟨c17, rfl⟩)
        | exact lp43 tk7 _ tc7 (Or.inr ⟨a17, lv + 1, a37, c17, by omega, hlv2, c37 ▸ hr9, c37⟩)
    · obtain ⟨npk, htpk⟩ := hty.1 _ 1 nk 1 1 htk (by decide) rfl _ c17
      obtain ⟨lv, hlv1, hlv2⟩ := hlv a17 npk htpk
      refine zz_aload_n (q := 21) (f := 0) (i := 0) C (by decide +kernel) rfl rfl rfl ?_
      refine zz_getR (q := 24) C gf_T_29 (by decide +kernel) rfl (by first | rfl | assumption) hwf.1.2.2.2.1 ?_
      refine zz_aload_n (q := 25) (f := 2) (i := 2) C (by decide +kernel) rfl rfl rfl ?_
      refine zz_getR (q := 28) C gf_T_103 (by decide +kernel) rfl (by first | rfl | assumption) c17 ?_
      refine zz_aload_n (q := 29) (f := 0) (i := 0) C (by decide +kernel) rfl rfl rfl ?_
      refine zz_getR (q := 32) C gf_T_22 (by decide +kernel) rfl (by first | rfl | assumption) hwf.1.2.2.1 ?_
      refine zz_callV (q := 35) C (m_O_firstParent l) cv_T_179 (by decide +kernel) rfl rfl rfl (by first | rfl | assumption) (by decide) (by decide) (Nat.le_of_ble_eq_true rfl) ⟨_, _, _, lv + 1, rfl, by omega, hlv2, hwf0.2.1, hwf0.2.2.1, hwf.2.2.2.1, fun r hr9 => ?_⟩
      refine zz_astore_n (q := 36) (f := 3) (i := 3) C (by decide +kernel) rfl rfl (by decide) rfl ?_
      refine zz_aload_n (q := 37) (f := 3) (i := 3) C (by decide +kernel) rfl rfl rfl ?_
      refine zz_ifnonnull (off := 6) (tgt := 43) (q := 40) C (by decide +kernel) (by decide) rfl (fun a37 c37 => ?_) (fun c37 => ?_)
      · -- AT 43
        first
          | exact lp43 tk7 none tc7 (Or.inl ⟨c17, rfl⟩)
          | exact lp43 tk7 _ tc7 (Or.inr ⟨a17, lv + 1, a37, c17, by omega, hlv2, c37 ▸ hr9, c37⟩)
      · refine zz_bipush (q := 42) (n := -2) (x := (-2)) C (by decide +kernel) rfl (by decide +kernel) ?_
        refine zz_iret C hr hlk (by decide +kernel) hQ (by decide) (by decide) ?_
        exact (hp _ tc7).1 ⟨a17, lv + 1, c17, by omega, hlv2, c37 ▸ hr9⟩
set_option maxRecDepth 100000 in
set_option maxHeartbeats 4000000 in
theorem x_T_insert (l : Launch) (hl : l.stackTraces = false) : zz_MetX l y_T_insert w_T_insert { frames := 7, cells := 3, slots := 17, locals := 148 } (fun as h postX => B_T_insert as h (fun _ _ => False) postX) := by
  refine zz_ofX hl (by decide) (fun as h postX hT => ?_) ?_
  · obtain ⟨a, t, rfl, hwf, hob, hsw, hlv, hpX, hp⟩ := hT
    exact ⟨by simp [zz_cat], by simp⟩
  · intro D DA h as postX hT p e s m args below meth c Q C hx hnm hQ
    obtain ⟨a, t, rfl, hwf, hob, hsw, hlv, hpX, hp⟩ := hT
    have lp69 : ∀ k par, t_k h a t = some k → in_par h a k par → ¬ in_dup h a k par → zz_Z p l e { frames := 7, cells := 3, slots := 17, locals := 148 } s m args below meth c Q D DA (zz_A h s.heap.size) h 5 69 [some (zz_r 0 (some a)), some (zz_i t), some (zz_r 1 (some k)), some (zz_r 2 par), none] [] (t_h0 h a) 1 6 := by
      intro k par hk hpar hnd
      have hok0 : t_ok (t_h0 h a) a := hwf.1
      have hwf0 : t_wf (t_h0 h a) a := hwf
      refine zz_know (fun hty _ hTL _ => ?_)
      obtain ⟨nk, htk⟩ := hTL 2 _ rfl _ rfl
      refine zz_aload_n (q := 70) (f := 0) (i := 0) C (by decide +kernel) rfl rfl rfl ?_
      refine zz_getR (q := 73) C gf_T_29 (by decide +kernel) rfl (by first | rfl | assumption) hwf.1.2.2.2.1 ?_
      refine zz_getI (q := 76) C gf_T_191 (by decide +kernel) rfl (by first | rfl | assumption) hwf.2.1.1.2.2.2.2.2.2 ?_
      refine zz_bipush (q := 78) (n := 60) (x := 60) C (by decide +kernel) rfl (by decide +kernel) ?_
      refine zz_icmp_lt (off := 6) (tgt := 84) (q := 81) C (by decide +kernel) (by decide) rfl (fun c78 => ?_) (fun c78 => ?_)
      · have hb60 := hwf.2.1.1.2.2.2.2.2.1
        have hs60 : or_s h (t_od h a) < 60 := (nI_ltI (by omega) (by decide)).mp c78
        refine zz_aload_n (q := 85) (f := 0) (i := 0) C (by decide +kernel) rfl rfl rfl ?_
        refine zz_dup (q := 86) C (by decide +kernel) rfl rfl ?_
        refine zz_getI (q := 89) C gf_T_194 (by decide +kernel) rfl (by first | rfl | assumption) rfl ?_
        refine zz_iconst (q := 90) (n := 1) (x := 1) C (by decide +kernel) rfl (by decide +kernel) ?_
        refine zz_iadd (q := 91) C (by decide +kernel) rfl rfl ?_
        refine zz_putI (q := 94) C gf_T_194 (fun h => by cases h) (fun h => by cases h) (by decide +kernel) rfl (by first | rfl | assumption) ?_
        refine zz_newO (q := 97) (ci := 2) C rfl kl_T_157 ni_S nj_S (by decide +kernel) rfl (by decide) (by decide) (fun a94 n94 => ?_)
        refine zz_dup (q := 98) C (by decide +kernel) rfl rfl ?_
        refine zz_aload_n (q := 99) (f := 0) (i := 0) C (by decide +kernel) rfl rfl rfl ?_
        refine zz_getI (q := 102) C gf_T_194 (by decide +kernel) rfl (by first | rfl | assumption) (in_num _ _ _ _) ?_
        refine zz_aload_n (q := 103) (f := 2) (i := 2) C (by decide +kernel) rfl rfl rfl ?_
        refine zz_aload_n (q := 104) (f := 3) (i := 3) C (by decide +kernel) rfl rfl rfl ?_
        refine zz_callI (q := 107) C (m_S_init l) ci_T_197 (by decide +kernel) rfl rfl rfl (by first | rfl | assumption) (by decide) (by decide) (Nat.le_of_ble_eq_true rfl) ⟨_, _, _, _, rfl, fun wd hwd => ?_⟩
        show zz_Z p l e _ s m args below meth c Q D DA (zz_A h s.heap.size) h _ _ _ _ (in_h3 h a a94 wd k par) _ _
        have n94 : zz_tg h a94 = none := n94
        have hwd : zz_tg (zz_new h 2 a94) wd = none := hwd
        have ek : sg_k (in_h3 h a a94 wd k par) a94 = k := by rw [sg_k, in_f1]; rfl
        have hkk : kd_ok (in_h3 h a a94 wd k par) (sg_k (in_h3 h a a94 wd k par) a94) := by rw [ek]; exact hwf.2.2.2.2 k nk htk
        have tok3 := in_tok (k := k) (par := par) n94 hwd hwf.1
        have wf3 := in_wf (a := a) (k := k) (par := par) n94 hwd hwf.2.2.2.1
        have kw3 := in_kw (a := a) (f := a94) (wd := wd) (k := k) (par := par) hwf.2.2.2.2
        have okN3 := in_okN (a := a) (k := k) (par := par) n94 hwd hwf.2.1
        have okB3 := in_okB (a := a) (k := k) (par := par) n94 hwd hob
        refine zz_astore (q := 109) (i := 4) C (by decide +kernel) rfl (by decide) rfl ?_
        refine zz_aload (q := 111) (i := 4) C (by decide +kernel) rfl rfl ?_
        refine zz_aload_n (q := 112) (f := 0) (i := 0) C (by decide +kernel) rfl rfl rfl ?_
        refine zz_getR (q := 115) C gf_T_15 (by decide +kernel) rfl (by first | rfl | assumption) hwf.1.2.1 ?_
        refine zz_callV (q := 118) C (m_S_takeWords l) cv_T_200 (by decide +kernel) rfl rfl rfl (by first | rfl | assumption) (by decide) (by decide) (Nat.le_of_ble_eq_true rfl) ⟨_, _, rfl, in_okf, hkk, tok3.2.2.2.2.2.2, ?_⟩
        show zz_Z p l e _ s m args below meth c Q D DA (zz_A h s.heap.size) h _ _ _ _ (in_h4 h a a94 wd k par) _ _
        refine zz_aload_n (q := 119) (f := 0) (i := 0) C (by decide +kernel) rfl rfl rfl ?_
        refine zz_aload (q := 121) (i := 4) C (by decide +kernel) rfl rfl ?_
        refine zz_callV (q := 124) C (m_T_joinTwin l) cv_T_204 (by decide +kernel) rfl rfl rfl (by first | rfl | assumption) (by decide) (by decide) (Nat.le_of_ble_eq_true rfl) ⟨_, _, rfl, tok3, okN3, wf3, kw3, fun r hr9 => ⟨fun z => ?_, fun s9 z => ?_⟩⟩
        · subst z
          have sm5 : zz_fI (in_h4 h a a94 wd k par) 2 0 a94 = zz_fI h 0 7 a + 1 := in_f0 (k := k) (par := par)
          refine zz_aload_n (q := 125) (f := 0) (i := 0) C (by decide +kernel) rfl rfl rfl ?_
          refine zz_getR (q := 128) C gf_T_29 (by decide +kernel) rfl (by first | rfl | assumption) hwf.1.2.2.2.1 ?_
          refine zz_aload (q := 130) (i := 4) C (by decide +kernel) rfl rfl ?_
          refine zz_callV (q := 133) C (m_O_enter l) cv_T_208 (by decide +kernel) rfl rfl rfl (by first | rfl | assumption) (by decide) (by decide) (Nat.le_of_ble_eq_true rfl) ⟨_, _, rfl, okB3, hs60, wf3, kw3, hsw, fun to h6 e1 e2 => ?_⟩
          have sm6 := or_sm_tr (or_is_sm _ _ _ _) (or_sm_arr e2).1
          have hps : zz_fR h6 0 4 a = some (t_ps h a) := (sm6.2.2.2.1 0 4 a (by decide)).trans hwf.1.2.2.2.2.1
          have hnb : zz_fI h6 2 0 a94 = zz_fI h 0 7 a + 1 := (sm6.2.1 2 0 a94 (by decide) (by decide)).trans sm5
          refine zz_aload_n (q := 134) (f := 0) (i := 0) C (by decide +kernel) rfl rfl rfl ?_
          refine zz_getR (q := 137) C gf_T_36 (by decide +kernel) rfl (by first | rfl | assumption) hps ?_
          refine zz_aload (q := 139) (i := 4) C (by decide +kernel) rfl rfl ?_
          refine zz_callV (q := 142) C (m_Q_standAt l) cv_T_211 (by decide +kernel) rfl rfl rfl (by first | rfl | assumption) (by decide) (by decide) (Nat.le_of_ble_eq_true rfl) ⟨_, _, rfl, ?_⟩
          refine zz_aload (q := 144) (i := 4) C (by decide +kernel) rfl rfl ?_
          refine zz_getI (q := 147) C gf_T_156 (by decide +kernel) rfl (by first | rfl | assumption) hnb ?_
          exfalso
          exact ((hp k hk).2 par hpar).2 hnd |>.2 hs60 a94 wd none to h6 n94 hwd hr9 e1 e2
        · subst z
          show zz_Z p l e _ s m args below meth c Q D DA (zz_A h s.heap.size) h _ _ _ _ (t_jn (in_h4 h a a94 wd k par) a a94 s9) _ _
          have sm5 : zz_fI (t_jn (in_h4 h a a94 wd k par) a a94 s9) 2 0 a94 = zz_fI h 0 7 a + 1 := in_f0 (k := k) (par := par)
          refine zz_aload_n (q := 125) (f := 0) (i := 0) C (by decide +kernel) rfl rfl rfl ?_
          refine zz_getR (q := 128) C gf_T_29 (by decide +kernel) rfl (by first | rfl | assumption) hwf.1.2.2.2.1 ?_
          refine zz_aload (q := 130) (i := 4) C (by decide +kernel) rfl rfl ?_
          refine zz_callV (q := 133) C (m_O_enter l) cv_T_208 (by decide +kernel) rfl rfl rfl (by first | rfl | assumption) (by decide) (by decide) (Nat.le_of_ble_eq_true rfl) ⟨_, _, rfl, okB3, hs60, wf3, kw3, hsw, fun to h6 e1 e2 => ?_⟩
          have sm6 := or_sm_tr (or_is_sm _ _ _ _) (or_sm_arr e2).1
          have hps : zz_fR h6 0 4 a = some (t_ps h a) := (sm6.2.2.2.1 0 4 a (by decide)).trans hwf.1.2.2.2.2.1
          have hnb : zz_fI h6 2 0 a94 = zz_fI h 0 7 a + 1 := (sm6.2.1 2 0 a94 (by decide) (by decide)).trans sm5
          refine zz_aload_n (q := 134) (f := 0) (i := 0) C (by decide +kernel) rfl rfl rfl ?_
          refine zz_getR (q := 137) C gf_T_36 (by decide +kernel) rfl (by first | rfl | assumption) hps ?_
          refine zz_aload (q := 139) (i := 4) C (by decide +kernel) rfl rfl ?_
          refine zz_callV (q := 142) C (m_Q_standAt l) cv_T_211 (by decide +kernel) rfl rfl rfl (by first | rfl | assumption) (by decide) (by decide) (Nat.le_of_ble_eq_true rfl) ⟨_, _, rfl, ?_⟩
          refine zz_aload (q := 144) (i := 4) C (by decide +kernel) rfl rfl ?_
          refine zz_getI (q := 147) C gf_T_156 (by decide +kernel) rfl (by first | rfl | assumption) hnb ?_
          exfalso
          exact ((hp k hk).2 par hpar).2 hnd |>.2 hs60 a94 wd (some s9) to h6 n94 hwd hr9 e1 e2
      · refine zz_bipush (q := 83) (n := -4) (x := (-4)) C (by decide +kernel) rfl (by decide +kernel) ?_
        exfalso
        exact (((hp k hk).2 par hpar).2 hnd).1 (Nat.le_of_not_lt (fun z => c78 (nI_lt (b := 60) z (by decide))))
    have lp43 : ∀ k par, t_k h a t = some k → in_par h a k par → zz_Z p l e { frames := 7, cells := 3, slots := 17, locals := 148 } s m args below meth c Q D DA (zz_A h s.heap.size) h 5 43 [some (zz_r 0 (some a)), some (zz_i t), some (zz_r 1 (some k)), some (zz_r 2 par), none] [] (t_h0 h a) 1 6 := by
      intro k par hk hpar
      have hok0 : t_ok (t_h0 h a) a := hwf.1
      have hwf0 : t_wf (t_h0 h a) a := hwf
      refine zz_aload_n (q := 44) (f := 2) (i := 2) C (by decide +kernel) rfl rfl rfl ?_
      refine zz_getI (q := 47) C gf_T_183 (by decide +kernel) rfl (by first | rfl | assumption) rfl ?_
      refine zz_if_eq (off := 22) (tgt := 69) (q := 50) C (by decide +kernel) (by decide) rfl (fun c47 => ?_) (fun c47 => ?_)
      · -- AT 69
        first
          | exact lp69 k par hk hpar (fun z => z.1 c47)
          | exact lp69 k par hk hpar (fun z => zz_b_f c63 z.2)
      · refine zz_aload_n (q := 51) (f := 0) (i := 0) C (by decide +kernel) rfl rfl rfl ?_
        refine zz_getR (q := 54) C gf_T_29 (by decide +kernel) rfl (by first | rfl | assumption) hwf.1.2.2.2.1 ?_
        refine zz_aload_n (q := 55) (f := 2) (i := 2) C (by decide +kernel) rfl rfl rfl ?_
        refine zz_aload_n (q := 56) (f := 3) (i := 3) C (by decide +kernel) rfl rfl rfl ?_
        refine zz_aload_n (q := 57) (f := 0) (i := 0) C (by decide +kernel) rfl rfl rfl ?_
        refine zz_getR (q := 60) C gf_T_15 (by decide +kernel) rfl (by first | rfl | assumption) hwf.1.2.1 ?_
        refine zz_callV (q := 63) C (m_O_hasSibling l) cv_T_187 (by decide +kernel) rfl rfl rfl (by first | rfl | assumption) (by decide) (by decide) (Nat.le_of_ble_eq_true rfl) ⟨_, _, _, _, rfl, hwf.1.2.2.2.2.2.2, hwf0.2.1, hwf.2.2.2.1, hwf.2.2.2.2, ?_⟩
        refine zz_if_eq (off := 6) (tgt := 69) (q := 66) C (by decide +kernel) (by decide) rfl (fun c63 => ?_) (fun c63 => ?_)
        · -- AT 69
          first
            | exact lp69 k par hk hpar (fun z => z.1 c47)
            | exact lp69 k par hk hpar (fun z => zz_b_f c63 z.2)
        · refine zz_bipush (q := 68) (n := -3) (x := (-3)) C (by decide +kernel) rfl (by decide +kernel) ?_
          exfalso
          exact ((hp k hk).2 par hpar).1 ⟨c47, zz_b_t c63⟩
    refine zz_aload_n (q := 1) (f := 0) (i := 0) C (by decide +kernel) rfl rfl rfl ?_
    refine zz_null (q := 2) C 2 (by decide +kernel) rfl ?_
    refine zz_putR (q := 5) C gf_T_40 (fun h => by cases h) (by decide +kernel) rfl (by first | rfl | assumption) ?_
    show zz_Z p l e _ s m args below meth c Q D DA (zz_A h s.heap.size) h _ _ _ _ (t_h0 h a) 0 0
    have hok0 : t_ok (t_h0 h a) a := hwf.1
    have hwf0 : t_wf (t_h0 h a) a := hwf
    refine zz_aload_n (q := 6) (f := 0) (i := 0) C (by decide +kernel) rfl rfl rfl ?_
    refine zz_iload_n (q := 7) (f := 1) (i := 1) C (by decide +kernel) rfl rfl rfl ?_
    rcases opt_em (t_k h a t) with tc7 | ⟨tk7, tc7⟩
    · exact zz_callVX C hx (x_T_declaredKind l hl) cv_T_78 (by decide +kernel) rfl rfl (by first | rfl | assumption) (by decide) (by decide) (Nat.le_of_ble_eq_true rfl) hQ (by decide) (by decide) ⟨_, _, rfl, hok0, fun _ => (hpX tc7), fun k9 hk9 => absurd (hk9.symm.trans tc7) (Option.some_ne_none k9)⟩
    refine zz_callV (q := 10) C (m_T_declaredKind l) cv_T_78 (by decide +kernel) rfl rfl rfl (by first | rfl | assumption) (by decide) (by decide) (Nat.le_of_ble_eq_true rfl) ⟨_, _, rfl, hok0, fun z => absurd (tc7.symm.trans z) (Option.some_ne_none _), fun k9 hk9 => ?_⟩
    obtain rfl := Option.some.inj (tc7.symm.trans hk9)
    refine zz_astore_n (q := 11) (f := 2) (i := 2) C (by decide +kernel) rfl rfl (by decide) rfl ?_
    refine zz_know (fun hty _ hTL _ => ?_)
    obtain ⟨nk, htk⟩ := hTL 2 _ rfl _ rfl
    refine zz_null (q := 12) C 2 (by decide +kernel) rfl ?_
    refine zz_astore_n (q := 13) (f := 3) (i := 3) C (by decide +kernel) rfl rfl (by decide) rfl ?_
    refine zz_aload_n (q := 14) (f := 2) (i := 2) C (by decide +kernel) rfl rfl rfl ?_
    refine zz_getR (q := 17) C gf_T_103 (by decide +kernel) rfl (by first | rfl | assumption) rfl ?_
    refine zz_ifnull (off := 26) (tgt := 43) (q := 20) C (by decide +kernel) (by decide) rfl (fun c17 => ?_) (fun a17 c17 => ?_)
    · -- AT 43
      first
        | exact lp43 tk7 none tc7 (Or.inl ⟨c17, rfl⟩)
        | exact lp43 tk7 _ tc7 (Or.inr ⟨a17, lv + 1, a37, c17, by omega, hlv2, c37 ▸ hr9, c37⟩)
    · obtain ⟨npk, htpk⟩ := hty.1 _ 1 nk 1 1 htk (by decide) rfl _ c17
      obtain ⟨lv, hlv1, hlv2⟩ := hlv a17 npk htpk
      refine zz_aload_n (q := 21) (f := 0) (i := 0) C (by decide +kernel) rfl rfl rfl ?_
      refine zz_getR (q := 24) C gf_T_29 (by decide +kernel) rfl (by first | rfl | assumption) hwf.1.2.2.2.1 ?_
      refine zz_aload_n (q := 25) (f := 2) (i := 2) C (by decide +kernel) rfl rfl rfl ?_
      refine zz_getR (q := 28) C gf_T_103 (by decide +kernel) rfl (by first | rfl | assumption) c17 ?_
      refine zz_aload_n (q := 29) (f := 0) (i := 0) C (by decide +kernel) rfl rfl rfl ?_
      refine zz_getR (q := 32) C gf_T_22 (by decide +kernel) rfl (by first | rfl | assumption) hwf.1.2.2.1 ?_
      refine zz_callV (q := 35) C (m_O_firstParent l) cv_T_179 (by decide +kernel) rfl rfl rfl (by first | rfl | assumption) (by decide) (by decide) (Nat.le_of_ble_eq_true rfl) ⟨_, _, _, lv + 1, rfl, by omega, hlv2, hwf0.2.1, hwf0.2.2.1, hwf.2.2.2.1, fun r hr9 => ?_⟩
      refine zz_astore_n (q := 36) (f := 3) (i := 3) C (by decide +kernel) rfl rfl (by decide) rfl ?_
      refine zz_aload_n (q := 37) (f := 3) (i := 3) C (by decide +kernel) rfl rfl rfl ?_
      refine zz_ifnonnull (off := 6) (tgt := 43) (q := 40) C (by decide +kernel) (by decide) rfl (fun a37 c37 => ?_) (fun c37 => ?_)
      · -- AT 43
        first
          | exact lp43 tk7 none tc7 (Or.inl ⟨c17, rfl⟩)
          | exact lp43 tk7 _ tc7 (Or.inr ⟨a17, lv + 1, a37, c17, by omega, hlv2, c37 ▸ hr9, c37⟩)
      · refine zz_bipush (q := 42) (n := -2) (x := (-2)) C (by decide +kernel) rfl (by decide +kernel) ?_
        exfalso
        exact (hp _ tc7).1 ⟨a17, lv + 1, c17, by omega, hlv2, c37 ▸ hr9⟩

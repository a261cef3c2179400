/-! insert: both sides -/
section IH
variable {h h4 : zz_H} {x m27 r : Nat} {A : aA} {f : aF} {σ κ : Nat → Nat} {LB LN : List Nat} {sw t2 : Nat}
theorem in_h5_aR (a fr : Nat) (b : Option Nat) : zz_aR (in_h5 h4 a fr b) = zz_aR h4 := by cases b <;> rfl
theorem in_h5_fI (a fr : Nat) (b : Option Nat) : zz_fI (in_h5 h4 a fr b) = zz_fI h4 := by cases b <;> rfl
theorem in_h5_tg (a fr : Nat) (b : Option Nat) : zz_tg (in_h5 h4 a fr b) = zz_tg h4 := by cases b <;> rfl
theorem in_h5_od (a fr : Nat) (b : Option Nat) : t_od (in_h5 h4 a fr b) x = t_od h4 x := by cases b <;> rfl
theorem in_h5_ps (a fr : Nat) (b : Option Nat) : t_ps (in_h5 h4 a fr b) x = t_ps h4 x := by cases b <;> rfl
theorem in_h5_ob (a fr : Nat) (b : Option Nat) (d : Nat) : or_b (in_h5 h4 a fr b) d = or_b h4 d := by cases b <;> rfl
/-- at the new one -/
theorem CA_pos (hC : CA h x m27 A f σ κ LB LN sw t2) {s : Nat} (ls : aLive A s) : CA (zz_pI (zz_pI (zz_pR h 6 0 (t_ps h x) (some (σ s))) 6 1 (t_ps h x) 1) 6 2 (t_ps h x) 0) x m27 A (qU (qU f 28 1) 29 (nI s)) σ κ LB LN sw t2 := by
  obtain ⟨c1, c2, c3, c4, c5, c6, c7, c8, c9⟩ := hC
  exact ⟨c1, c2, c3, c4, c5, c6, c7, Or.inr (Or.inl ⟨rfl, s, ls, rfl, zz_pR_a _ _ _ _ _, zz_pI_a _ _ _ _ _⟩), c9⟩
theorem cR_new (hc : cR h h r) (m27 : mo_ok h r) {fr wd : Nat} (hf : zz_tg h fr = none) (hw : zz_tg (zz_new h 2 fr) wd = none) (k : Nat) (par : Option Nat) : cR h (in_h4 h x fr wd k par) r := by
  have nwd : ∀ {b : Nat} {q : Nat × Nat}, zz_tg h b = some q → b ≠ wd := fun hb => zz_tg_ne (h := zz_new h 2 fr) (zz_tg_oldO hb hf) hw
  have swf : sg_w (in_h3 h x fr wd k par) fr = wd := by rw [sg_w, in_f3]; rfl
  refine ⟨fun j ty n hj => ?_, hc.2.1, ?_, hc.2.2.2.1, hc.2.2.2.2⟩
  · obtain ⟨q1, q2⟩ := hc.1 j ty n hj
    exact ⟨q1, in_tg (a := x) (k := k) (par := par) hf hw q2⟩
  · funext j i
    show (if mS j = true then zz_aI (in_h4 h x fr wd k par) (mf h r j) i else 0) = (if mS j = true then zz_aI h (mf h r j) i else 0)
    by_cases e3 : mS j = true
    · rw [if_pos e3, if_pos e3]
      have hn : mf h r j ≠ wd := by
        cases hz : mo_sz j with
        | none => exact absurd hz (mS_sz e3).1
        | some q => exact nwd (hc.1 j q.1 q.2 hz).2
      have e1 : zz_aI (in_h4 h x fr wd k par) (mf h r j) i = zz_aI (in_h3 h x fr wd k par) (mf h r j) i := if_neg (by rw [swf]; exact hn)
      exact e1.trans (if_neg hn)
    · rw [if_neg e3, if_neg e3]
end IH
set_option maxHeartbeats 8000000 in
theorem ok_insert : st_insert Rel := fun n h x r u p1 hn hR _ => by
  obtain ⟨hok, hap, hu, σ, κ, LB, LN, sw, t2, hM, hC⟩ := hR
  have hC0 := CA_h0 hC
  have hM0 := aM_h0 hM
  have c00 : cR h h r := cR_rf hok hap
  have c0 : cR h (t_h0 h x) r := c00
  have hwf := CA_twf hM hC
  have okB := c_okB hC.1 hC.2.2.2.2.2.2.1
  have osw := CA_sw hM hC
  have klv := (c_kdwf hC.2.2.1 hM.2.1).2
  have ho := hC.2.2.2.2.2.2.1
  rcases c_tk hC.2.2.1 p1 with ⟨nty, etk⟩ | ⟨hty, t, t8, ep, -, dt, etk⟩
  · exact ⟨_, ⟨x, p1, u, rfl, Or.inr ⟨x, p1, rfl, hwf, okB, osw, klv, fun _ => ⟨rfl, 1, rfl, _, ⟨r, p1, sw, t2, rfl, c_W (n := n) c0.1 c0.2.1 hM, fun _ => ⟨0, rfl, zz_pI_a _ _ _ _ _, fun z => absurd z (by decide), Rel_of (gR_p0 (gR_bg (gR_of c0)) 1) hu (aM_up hM0) hC0⟩, fun t9 _ _ hty' => absurd hty' nty⟩, fun _ _ z => z⟩, fun k hk => (by rw [etk] at hk; cases hk)⟩⟩, fun _ _ z => z⟩
  · subst ep
    have fin1 : ∀ (v : Int32) k, gR (zz_sL (t_h0 h x) u 0 v.toInt64) k r (mA h r) (qU (mQ h r) 30 (-1)) → zz_fI k 7 0 r = 0 → ∃ b, some (zz_i v) = some (zz_i b) ∧ zz_fI k 7 0 r = 0 ∧ ((0 : Int32) = 0 → zz_aL k u 0 = b.toInt64) ∧ Rel (n + 1) k x r u := fun v k hg h0 => ⟨v, rfl, h0, fun _ => by rw [gR_u hg hu]; exact if_pos ⟨rfl, rfl⟩, Rel_of hg hu (aM_up hM0) (CA_sL hC0 _ _ _)⟩
    refine ⟨_, ⟨x, nI t, u, rfl, Or.inl ⟨x, nI t, rfl, hwf, okB, osw, klv, fun z => (by rw [etk] at z; cases z), fun k hk => ?_⟩⟩, fun _ _ z => z⟩
    rw [etk] at hk
    cases hk
    refine ⟨fun hnop => ?_, fun par hpar => ?_⟩
    · obtain ⟨n2, hf0⟩ := c_nop hM hC t8 dt hnop
      refine ⟨-2, rfl, hu, 0, rfl, _, mm_ins hM hC (cR_sL c0 u 0 (Int32.toInt64 (-2))) t8 hty (fun k res hg h0 hf => ?_), fun _ _ z => z⟩
      have er := aFnd_uq hf0 hf
      subst er
      have dead : ∀ {P : Prop}, (∃ b, some (zz_i (-2)) = some (zz_i b) ∧ zz_fI k 7 0 r = 0 ∧ ((0 : Int32) = 0 → zz_aL k u 0 = b.toInt64) ∧ Rel (n + 1) k x r u) := fun {_} => fin1 (-2) k hg h0
      have eA2 : ma k r 2 t = mA h r 2 t := congrArg (fun z => z 2 t) hg.2.1
      exact ⟨fun _ _ => fin1 (-2) k hg h0, fun w => (w.elim (fun w => absurd rfl w) (fun w => absurd (eA2.symm.trans w) n2))⟩
    · obtain ⟨res0, rfl, hf0, hres, hg0, hoS⟩ := c_fnd hM hC t8 dt hpar
      rw [← hoS]
      refine ⟨fun hd => ?_, fun hd => ⟨fun h60 => ?_, fun h60 => ?_⟩⟩
      · refine ⟨-3, rfl, hu, 0, rfl, _, mm_ins hM hC (cR_sL c0 u 0 (Int32.toInt64 (-3))) t8 hty (fun k res hg h0 hf => ?_), fun _ _ z => z⟩
        have er := aFnd_uq hf0 hf
        subst er
        have ad := (c_dup hM hC t8 dt hg0).mp hd
        exact mm_ic hM hg t8 dt (fun z1 z2 => hres.elim (fun w => absurd z1 w) (fun w => absurd w z2)) (fun _ _ => fin1 (-3) k hg h0) (fun w => absurd ad w) (fun w => absurd ad w)
      · refine ⟨-4, rfl, hu, 0, rfl, _, mm_ins hM hC (cR_sL c0 u 0 (Int32.toInt64 (-4))) t8 hty (fun k res hg h0 hf => ?_), fun _ _ z => z⟩
        have er := aFnd_uq hf0 hf
        subst er
        have nd : ¬ aDup (mA h r) t (mO res0) := fun w => hd ((c_dup hM hC t8 dt hg0).mpr w)
        rw [c_size ho, (c_len ho).1] at h60
        exact mm_ic hM hg t8 dt (fun z1 z2 => hres.elim (fun w => absurd z1 w) (fun w => absurd w z2)) (fun _ w => absurd w nd) (fun _ _ => fin1 (-4) k hg h0) (fun _ w => absurd w (by omega))
      · intro fr wd rC to h6 hfr hwd hbest hent harr
        have nd : ¬ aDup (mA h r) t (mO res0) := fun w => hd ((c_dup hM hC t8 dt hg0).mpr w)
        have hndB : LB.Nodup := pw_nodup (fun a => fo_R_irr a) ho.2.2.2.2.2.2.1
        have hsz := c_size ho
        obtain ⟨s, s60, ns, hlow⟩ := aFree hndB ho.2.2.2.2.1 (by omega)
        obtain ⟨-, -, -, -, ln, l1, l4, eln, hsq⟩ := hM.2.1 t t8 dt
        have nsl : ∀ e, aLive (mA h r) e → e ≠ s := fun e le z => ns (z ▸ le)
        obtain ⟨hM5, hnv⟩ := aM_new (LB := LB) (pv := mO res0) (ln := ln) hM hn s60 ns t8 dt hg0 rfl l4 hndB ho.2.2.2.2.1
        have hM4 : aM (aNx (mA h r) s t (mO res0) (mQ h r 12 + 1) ln) (qU (qU (qU (mQ h r) 30 (-1)) 12 (mQ h r 12 + 1)) 13 (mQ h r 13 + 1)) (n + 1) sw t2 := hM5
        have h27 := (hok 27 90 4 rfl).2
        have hB4 := CN_new (v13 := mQ h r 13 + 1) hM (CB_CN (CA_CB hC)) h27 s60 ns t8 dt hg0 rfl hnv l4 eln hfr hwd
        have hσ : ∀ e, aLive (mA h r) e → kU σ s fr e = σ e := fun e le => kU_ne (nsl e le)
        have hσs : kU σ s fr s = fr := kU_eq _ _ _
        have on9 := hC.1.2.2.2.2.2.2.1
        have ob9 := hC.1.2.2.2.2.2.1
        obtain ⟨b0, rfl, hb0⟩ := c_best (σ := σ) (LN := LN) hM t8 dt s60 hnv ns l4 eln hB4 hσ (by rw [ho.2.1]; exact hsz) (fun i e hi => by
          have e1 := in_aR (a := x) (k := κ t) (par := oS σ (mO res0)) hwd hfr on9 i
          show (zz_aR (in_h3 h x fr wd (κ t) (oS σ (mO res0))) (or_n h (t_od h x)) i).getD 0 = σ e
          rw [e1]; exact c_N ho hi) ho.2.2.2.2.2.1 (by rw [hσs]; exact hbest)
        obtain ⟨hB5, hM6, hs0, hj, hbs⟩ := CN_join (σ := σ) hM t8 dt s60 hnv ns l4 eln hM4 hB4 hσ hb0
        rw [hσs] at hB5
        generalize eA5 : aFin (mA h r) s t (mO res0) (mQ h r 12 + 1) ln b0 = A5 at hB5 hM6 hs0 hj
        have lv4 := fun e => aNx_live (A := mA h r) (t := t) (pv := mO res0) (ln := ln) (e := e) s60 hnv ns
        have lv : ∀ e, aLive A5 e ↔ e = s ∨ aLive (mA h r) e := fun e => by rw [← lv4 e, aLive, aLive, hj 14 (by decide) (by decide)]
        have ls : aLive A5 s := (lv s).mpr (Or.inl rfl)
        have h5j : ∀ e, e ≠ s → ∀ j, j ≠ 17 → j ≠ 18 → A5 j e = mA h r j e := fun e he j j7 j8 => by rw [hj j j7 j8, aNx_ne he j8]
        have h14 : A5 14 s = mQ h r 12 + 1 := by rw [hj 14 (by decide) (by decide), aNx_j (by decide)]; exact aNw_14
        have h16 : A5 16 s = mO res0 := by rw [hj 16 (by decide) (by decide), aNx_j (by decide)]; exact aNw_16
        have hnew : ∀ e, aLive A5 e → e ≠ s → A5 14 e < A5 14 s := fun e le hne => by
          obtain ⟨k, k1, k2, k3⟩ := hM6.2.2.2.2.2.2.1
          have k2 : mQ h r 12 + 1 = nI k := k2
          obtain ⟨j, j1, j2⟩ := k3 e le
          have nj : j ≠ k := fun z => hne (hM6.2.2.2.2.1 e s le ls (by rw [j2, h14, k2, z]))
          rw [j2, h14, k2]
          exact nI_lt (by omega) (by omega)
        have hleaf : ∀ e, aLive A5 e → A5 16 e ≠ nI s := fun e le z => by
          rcases (lv e).mp le with e0 | le0
          · rw [e0, h16] at z
            rcases hg0 with ⟨g1, -⟩ | ⟨p, lp, g1, -⟩
            · exact nI_neg (by omega) (z.symm.trans g1)
            · exact nsl p lp (nI_eqI9 (by have := lp.1; omega) (by omega) (g1.symm.trans z))
          · rw [h5j e (nsl e le0) 16 (by decide) (by decide)] at z
            rcases (hM.1 e le0).2.2.2.2.2 with ⟨g1, -⟩ | ⟨p, lp, g1, -⟩
            · exact nI_neg (by omega) (z.symm.trans g1)
            · exact nsl p lp (nI_eqI9 (by have := lp.1; omega) (by omega) (g1.symm.trans z))
        have eK5 : ∀ e, e ≠ s → aK A5 e = aK (mA h r) e := fun e he => by rw [aK, aK, h5j e he 15 (by decide) (by decide)]
        have eT5 : ∀ k, aT A5 k = aT (mA h r) k := fun k => by rw [aT, aT, hj 3 (by decide) (by decide)]; rfl
        have hpw : LB.Pairwise (fo_R (aLive A5) (aP A5) (s0 A5)) := by
          refine List.Pairwise.imp_of_mem (fun {a b} ha hb hab => ?_) ho.2.2.2.2.2.2.1
          refine (fo_R_ext (aWl_fo hM.1) (s0_sb hM.2.2.2.2.1) (aWl_fo hM6.1) (s0_sb hM6.2.2.2.2.1) (fun e le => (lv e).mpr (Or.inr le)) (fun e le => ⟨?_, ?_⟩) (fun a b la lb => hs0 a b la lb) ((ho.2.2.2.2.1 a).mp ha) ((ho.2.2.2.2.1 b).mp hb)).mpr hab
          · rw [aP, aP, h5j e (nsl e le) 16 (by decide) (by decide)]
          · rw [aLv, aLv, eK5 e (nsl e le), eT5]
        have hod : t_od (in_h5 (in_h4 h x fr wd (κ t) (oS σ (mO res0))) x fr (b0.map σ)) x = t_od h x := in_h5_od _ _ _
        have hB6 := CB_enter (to := to) hM6 hB5 ls hnew hleaf (LB := LB) (by
          rw [hod, in_h5_fI]; exact ho.1) (by omega) (fun i e hi => by
          rw [hod, in_h5_aR, in_h5_ob]
          have le := (ho.2.2.2.2.1 e).mp (List.mem_of_getElem? hi)
          have e1 := in_aR (a := x) (k := κ t) (par := oS σ (mO res0)) hwd hfr ob9 i
          rw [hσ e le]
          exact e1.trans (ho.2.2.1 i e hi)) (fun e => by
          rw [ho.2.2.2.2.1 e, lv e]
          exact ⟨fun z => ⟨Or.inr z, nsl e z⟩, fun z => z.1.resolve_left z.2⟩) hpw (by rw [hod, hσs]; exact hent)
        rw [hod, hσs] at hB6
        obtain ⟨hfr6, LN', hC6⟩ := CB_arr hM6 hB6 (by
          have e9 : t_od (or_is (in_h5 (in_h4 h x fr wd (κ t) (oS σ (mO res0))) x fr (b0.map σ)) (t_od h x) fr to) x = t_od h x := hod
          rw [e9]; exact harr)
        have c4 : cR h (in_h4 h x fr wd (κ t) (oS σ (mO res0))) r := cR_new c00 hok hfr hwd _ _
        have c5 : cR h (in_h5 (in_h4 h x fr wd (κ t) (oS σ (mO res0))) x fr (b0.map σ)) r := by
          rcases hb0 with ⟨rfl, -⟩ | ⟨b, ⟨-, lb, -⟩, rfl, -⟩
          · exact c4
          · have lb4 := (lv4 b).mpr (Or.inr lb)
            have s1 := (hB4.2.2.2.1.2.2 b lb4).1
            rw [hσ b lb] at s1
            have nsw := mo_not c4.1 (hB4.2.2.2.1.1 _ 0 s1).2.2.1 (Or.inr rfl) (by rw [c4.2.2.2.2]; exact (hB4.2.1.2.1 _ 0 s1).1)
            exact cR_tw c4 nsw _
        have c6 : cR h (or_is (in_h5 (in_h4 h x fr wd (κ t) (oS σ (mO res0))) x fr (b0.map σ)) (t_od h x) fr to) r := c5
        have c7 := cR_fr c6 hfr6
        have eps : t_ps h6 x = t_ps h x := (fr_ps (x := x) hfr6).trans (in_h5_ps _ _ _)
        have hu6 : zz_tg h6 u = some (92, 1) := by
          rw [fr_tg hfr6]
          show zz_tg (in_h5 (in_h4 h x fr wd (κ t) (oS σ (mO res0))) x fr (b0.map σ)) u = _
          rw [in_h5_tg]; exact in_tg (a := x) (k := κ t) (par := oS σ (mO res0)) hfr hwd hu
        have hC7 := CA_pos hC6 ls
        rw [eps, hσs] at hC7
        have c8 : cR h (zz_pI (zz_pI (zz_pR h6 6 0 (t_ps h x) (some fr)) 6 1 (t_ps h x) 1) 6 2 (t_ps h x) 0) r := c7
        have hu7 : zz_tg (zz_pI (zz_pI (zz_pR h6 6 0 (t_ps h x) (some fr)) 6 1 (t_ps h x) 1) 6 2 (t_ps h x) 0) u = some (92, 1) := hu6
        generalize zz_pI (zz_pI (zz_pR h6 6 0 (t_ps h x) (some fr)) 6 1 (t_ps h x) 1) 6 2 (t_ps h x) 0 = h7 at hC7 c8 hu7
        have e12 : zz_fI h 0 7 x = mQ h r 12 := hC.2.2.2.2.2.2.2.2.1
        refine ⟨zz_fI h 0 7 x + 1, rfl, hu7, 0, rfl, _, mm_ins hM hC (cR_sL c8 u 0 (zz_fI h 0 7 x + 1).toInt64) t8 hty (fun k res hg h0 hf => ?_), fun _ _ z => z⟩
        have er := aFnd_uq hf0 hf
        subst er
        rw [hsz, (c_len ho).1] at h60
        refine mm_ic hM hg t8 dt (fun z1 z2 => hres.elim (fun w => absurd z1 w) (fun w => absurd w z2)) (fun _ w => absurd w nd) (fun _ w => absurd w (by omega)) (fun _ _ => ⟨s, ln, s60, ns, hlow, eln, l4, fun best hbst => ?_⟩)
        have eb := aBst_uq hM.2.2.2.2.1 hb0 hbst
        subst eb
        have hgf := gR_in (s := s) (t := t) (pv := mO res0) (ln := ln) (nv := mQ h r 12 + 1) (v13 := mQ h r 13 + 1) hg rfl rfl hbs
        rw [eA5] at hgf
        have hC8 := CA_sL hC7 u 0 (zz_fI h 0 7 x + 1).toInt64
        rw [← c8.2.2.2.2] at hC8
        refine ⟨mQ h r 12 + 1, rfl, ?_, fun _ => ?_, Rel_of hgf hu7 hM6 hC8⟩
        · have : ∀ best, zz_fI (mo_in k r s t (mO res0) best ln) 7 0 r = zz_fI k 7 0 r := fun best => by cases best <;> rfl
          rw [this]; exact h0
        · rw [gR_u hgf hu7, ← e12]; exact if_pos ⟨rfl, rfl⟩
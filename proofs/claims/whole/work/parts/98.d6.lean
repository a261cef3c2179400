/-! the class: a segment is new -/
section NC
variable {h : zz_H} {x m27 n s t ln fr wd : Nat} {A : aA} {f : aF} {σ κ : Nat → Nat} {sw t2 : Nat} {pv nv v13 : Int32}
theorem CN_h0 (hB : CN h x m27 A f σ κ) : CN (t_h0 h x) x m27 A (qU f 30 (-1)) σ κ := by
  obtain ⟨c1, c2, c3, c4, c5, c6, c8, r1, r2, r3, r4, r5, r6⟩ := hB
  exact ⟨c1, c2, c3, c4, c5, c6, c8, r1, r2, r3, r4, zz_pR_a _ _ _ _ _, r6⟩
set_option maxHeartbeats 4000000 in
theorem CN_new (hM : aM A f n sw t2) (hB0 : CN h x m27 A f σ κ) (h27 : zz_tg h m27 = some (90, 4)) (s60 : s < 60) (ns : ¬ aLive A s) (t8 : t < 8) (dt : A 1 t ≠ 0) (hg : aHg A t pv) (env : nv = f 12 + 1) (hnv : 0 < nv) (l4 : ln ≤ 4) (eln : A 4 t = nI ln) (hf : zz_tg h fr = none) (hw : zz_tg (zz_new h 2 fr) wd = none) : CN (in_h4 h x fr wd (κ t) (oS σ pv)) x m27 (aNx A s t pv nv ln) (qU (qU (qU f 30 (-1)) 12 nv) 13 v13) (kU σ s fr) κ := by
  obtain ⟨m1, m2, m3, m4, m5, m6, m7, m8, m9, m10, m11, m12, m13, m14⟩ := hM
  have lv := fun e => aNx_live (A := A) (t := t) (pv := pv) (ln := ln) (e := e) s60 hnv ns
  have nsl : ∀ e, aLive A e → e ≠ s := fun e le z => ns (z ▸ le)
  obtain ⟨c1, c2, c3, c4, c5, c6, c8, r1, r2, r3, r4, r5, r6⟩ := hB0
  have nwd : ∀ {b : Nat} {q : Nat × Nat}, zz_tg h b = some q → b ≠ wd := fun hb => zz_tg_ne (h := zz_new h 2 fr) (zz_tg_oldO hb hf) hw
  have nfr : ∀ {b : Nat} {q : Nat × Nat}, zz_tg h b = some q → b ≠ fr := fun hb => zz_tg_ne hb hf
  have tg : ∀ {b : Nat} {q : Nat × Nat}, zz_tg h b = some q → zz_tg (in_h4 h x fr wd (κ t) (oS σ pv)) b = some q := fun hb => in_tg (a := x) (k := κ t) (par := oS σ pv) hf hw hb
  have back : ∀ {b : Nat} {q : Nat × Nat}, zz_tg (in_h4 h x fr wd (κ t) (oS σ pv)) b = some q → b = wd ∧ q = (90, 4) ∨ b = fr ∧ q = (2, 0) ∨ zz_tg h b = some q := fun hb => in_tg9 (h := h) (a := x) (f := fr) (wd := wd) (k := κ t) (par := oS σ pv) hb
  have back2 : ∀ {b m : Nat}, zz_tg (in_h4 h x fr wd (κ t) (oS σ pv)) b = some (2, m) → b = fr ∨ (b ≠ fr ∧ zz_tg h b = some (2, m)) := fun {b m} hb => by
    rcases back hb with ⟨-, z⟩ | ⟨z, -⟩ | z
    · exact absurd (congrArg Prod.fst z) (show ¬ (2 : Nat) = 90 by decide)
    · exact Or.inl z
    · exact Or.inr ⟨nfr z, z⟩
  have aR : ∀ {b : Nat} {q : Nat × Nat}, zz_tg h b = some q → ∀ i, zz_aR (in_h4 h x fr wd (κ t) (oS σ pv)) b i = zz_aR h b i := fun hb i => in_aR (a := x) (k := κ t) (par := oS σ pv) hw hf hb i
  have swf : sg_w (in_h3 h x fr wd (κ t) (oS σ pv)) fr = wd := by rw [sg_w, in_f3]; rfl
  have skf : sg_k (in_h3 h x fr wd (κ t) (oS σ pv)) fr = κ t := by rw [sg_k, in_f1]; rfl
  have hkl : kd_ln (in_h3 h x fr wd (κ t) (oS σ pv)) (sg_k (in_h3 h x fr wd (κ t) (oS σ pv)) fr) = ln := by
    rw [skf]
    show (zz_fI h 1 3 (κ t)).toNatClampNeg = ln
    rw [((c3.1 t t8).2 dt).2.2.2.2.2.1, eln]; exact nI_clamp (by omega)
  have aI : ∀ {b : Nat}, b ≠ wd → ∀ i, zz_aI (in_h4 h x fr wd (κ t) (oS σ pv)) b i = zz_aI h b i := fun {b} hb i => by
    have e1 : zz_aI (in_h4 h x fr wd (κ t) (oS σ pv)) b i = zz_aI (in_h3 h x fr wd (κ t) (oS σ pv)) b i := if_neg (by rw [swf]; exact hb)
    exact e1.trans (if_neg hb)
  obtain ⟨⟨a1, a2, a3, a4, a5, a6, a7⟩, ⟨b1, b2, b3⟩, b4, b5, b6, b7, b8, b9⟩ := c1
  have nww : t_ww h x ≠ wd := nwd a7
  have aW : ∀ i, i < ln → zz_aI (in_h4 h x fr wd (κ t) (oS σ pv)) wd i = zz_aI h (t_ww h x) i := fun i hi => by
    have e1 : zz_aI (in_h4 h x fr wd (κ t) (oS σ pv)) wd i = zz_aI (in_h3 h x fr wd (κ t) (oS σ pv)) (t_ww h x) i := by
      show (if wd = sg_w (in_h3 h x fr wd (κ t) (oS σ pv)) fr then (if i < kd_ln (in_h3 h x fr wd (κ t) (oS σ pv)) (sg_k (in_h3 h x fr wd (κ t) (oS σ pv)) fr) then zz_aI (in_h3 h x fr wd (κ t) (oS σ pv)) (t_ww (in_h3 h x fr wd (κ t) (oS σ pv)) x) i else _) else _) = _
      rw [if_pos swf.symm, if_pos (by rw [hkl]; exact hi)]; rfl
    exact e1.trans (if_neg nww)
  have epl : ∀ i, pa_l (in_h4 h x fr wd (κ t) (oS σ pv)) (t_pa (in_h4 h x fr wd (κ t) (oS σ pv)) x) i = pa_l h (t_pa h x) i := fun i => congrArg (fun z => z.getD 0) (aR b2 i)
  have b4' : pl_ap (in_h4 h x fr wd (κ t) (oS σ pv)) (t_pa (in_h4 h x fr wd (κ t) (oS σ pv)) x) := fun i j hi hj => by
    rw [epl i, epl j]; exact b4 i j hi hj
  have sw9 : ∀ {a : Nat}, a ≠ fr → sg_w (in_h4 h x fr wd (κ t) (oS σ pv)) a = sg_w h a := fun {a} ha => by
    show (zz_fR (in_h3 h x fr wd (κ t) (oS σ pv)) 2 3 a).getD 0 = _
    rw [in_r ha]; rfl
  have swf4 : sg_w (in_h4 h x fr wd (κ t) (oS σ pv)) fr = wd := swf
  have σe : ∀ e, aLive A e → kU σ s fr e = σ e := fun e le => kU_ne (nsl e le)
  have nσ : ∀ e, aLive A e → σ e ≠ fr := fun e le => nfr (c4.2.2 e le).1
  have oSl : ∀ v, (v = -1 ∨ ∃ p, aLive A p ∧ v = nI p) → oS (kU σ s fr) v = oS σ v := fun v hv => oS_kU (hv.imp id (fun ⟨p, lp, w⟩ => ⟨p, lp.1, w, nsl p lp⟩))
  refine ⟨⟨⟨a1, a2, a3, a4, a5, tg a6, tg a7⟩, ⟨b1, tg b2, fun i hi => ?_⟩, b4', b5, b6, tg b7, tg b8, b9⟩, ⟨c2.1, fun a m ha => ?_, fun a b m m' ha hb hab => ?_⟩, ⟨fun i i8 => ?_, fun k' m hk' => ?_⟩, ⟨in_wf (a := x) (k := κ t) (par := oS σ pv) hf hw c4.1, fun a m ha => ?_, fun e le => ?_⟩, fun l hl => ?_, fun i hi => ?_, ?_, ?_, r2, r3, r4, ?_, ?_⟩
  · obtain ⟨q1, q2, q3, q4, q5, q6, q7⟩ := b3 i hi
    rw [epl i]
    exact ⟨(aR b2 i).trans q1, q2, q3, q4, tg q5, tg q6, tg q7⟩
  · rcases back2 ha with z | ⟨z, ha0⟩
    · rw [z, swf4]; exact ⟨(nwd h27).symm, nww.symm⟩
    · rw [sw9 z]; exact c2.2.1 a m ha0
  · rcases back2 ha with z | ⟨z, ha0⟩
    · rcases back2 hb with z' | ⟨z', hb0⟩
      · exact absurd (z.trans z'.symm) hab
      · rw [z, swf4, sw9 z']; exact (nwd (c4.1 b m' hb0).2.2.1).symm
    · rcases back2 hb with z' | ⟨z', hb0⟩
      · rw [z', swf4, sw9 z]; exact nwd (c4.1 a m ha0).2.2.1
      · rw [sw9 z, sw9 z']; exact c2.2.2 a b m m' ha0 hb0 hab
  · obtain ⟨q1, q2⟩ := c3.1 i i8
    refine ⟨fun z => (aR a6 i).trans (q1 z), fun di => ⟨(aR a6 i).trans (q2 di).1, ?_⟩⟩
    obtain ⟨z1, z2, z3, z4, z5, z6, z7, z8, z9⟩ := (q2 di).2
    exact ⟨tg z1, z2, z3, z4, z5, z6, z7, z8, z9⟩
  · rcases back hk' with ⟨-, z⟩ | ⟨-, z⟩ | z
    · exact absurd (congrArg Prod.fst z) (show ¬ (1 : Nat) = 90 by decide)
    · exact absurd (congrArg Prod.fst z) (show ¬ (1 : Nat) = 2 by decide)
    · exact c3.2 k' m z
  · rcases back2 ha with z | ⟨z, ha0⟩
    · rw [z]; exact ⟨t, t8, dt, in_f1 (h := h) (a := x) (f := fr) (wd := wd) (k := κ t) (par := oS σ pv)⟩
    · obtain ⟨i, i8, di, ei⟩ := c4.2.1 a m ha0
      exact ⟨i, i8, di, (in_r (h := h) (a := x) (f := fr) (wd := wd) (k := κ t) (par := oS σ pv) z 1).trans ei⟩
  · rcases (lv e).mp le with e0 | le0
    · subst e0
      unfold c_s1
      rw [kU_eq, aNx_K t8, aNx_j (j := 14) (by decide), aNw_14, aNx_j (j := 16) (by decide), aNw_16, aNx_j (j := 17) (by decide), aNw_17, swf4]
      refine ⟨?_, ?_, in_f1 (h := h) (a := x) (f := fr) (wd := wd) (k := κ t) (par := oS σ pv), ?_, in_f4 (h := h) (a := x) (f := fr) (wd := wd) (k := κ t) (par := oS σ pv), fun i i4 hi => ?_⟩
      · show (if fr = wd then some (90, 4) else if fr = fr then some (2, 0) else zz_tg h fr) = some (2, 0)
        rw [if_neg (in_fw hw), if_pos rfl]
      · have : zz_fI (in_h4 h x fr wd (κ t) (oS σ pv)) 2 0 fr = zz_fI h 0 7 x + 1 := in_f0 (h := h) (a := x) (f := fr) (wd := wd) (k := κ t) (par := oS σ pv)
        rw [this, r1, env]
      · have : zz_fR (in_h4 h x fr wd (κ t) (oS σ pv)) 2 2 fr = oS σ pv := in_f2 (h := h) (a := x) (f := fr) (wd := wd) (k := κ t) (par := oS σ pv)
        rw [this, oSl pv (hg.imp (fun z => z.1) (fun ⟨p, lp, w, _⟩ => ⟨p, lp, w⟩))]
      · have hi' : nI i < A 4 t := hi
        rw [eln] at hi'
        have hl := nI_ltJ (by omega) (by omega) hi'
        exact (aW i hl).trans ((c6 i i4).trans (aPw_in (A := aNw A e t pv nv (-1)) hl).symm)
    · have ne := nsl e le0
      obtain ⟨z1, z2, z3, z4, z5, z6⟩ := c4.2.2 e le0
      unfold c_s1
      rw [σe e le0, aNx_Ke ne, aNx_ne ne (by decide), aNx_ne ne (by decide), aNx_ne ne (by decide), sw9 (nσ e le0)]
      refine ⟨tg z1, (in_i (h := h) (a := x) (f := fr) (wd := wd) (k := κ t) (par := oS σ pv) (nσ e le0) 0).trans z2, (in_r (h := h) (a := x) (f := fr) (wd := wd) (k := κ t) (par := oS σ pv) (nσ e le0) 1).trans z3, ?_, ?_, fun i i4 hi => ?_⟩
      · rw [oSl _ ((m1 e le0).2.2.2.2.2.imp (fun z => z.1) (fun ⟨p, lp, w, _⟩ => ⟨p, lp, w⟩))]
        exact (in_r (h := h) (a := x) (f := fr) (wd := wd) (k := κ t) (par := oS σ pv) (nσ e le0) 2).trans z4
      · rw [oSl _ ((m11 e le0).imp id (fun ⟨p, lp, w, _⟩ => ⟨p, lp, w⟩))]
        exact (in_r (h := h) (a := x) (f := fr) (wd := wd) (k := κ t) (par := oS σ pv) (nσ e le0) 4).trans z5
      · rw [aNx_18 ne l4 i4]
        exact (aI (nwd (c4.1 _ _ z1).2.2.1) i).trans (z6 i i4 hi)
  · obtain ⟨q1, q2, q3⟩ := c5 l hl
    obtain ⟨-, -, -, -, t1, t2, t3⟩ := b3 l hl
    rw [epl l]
    refine ⟨q1, q2, fun i hi => ?_⟩
    obtain ⟨w1, w2, w3⟩ := q3 i hi
    exact ⟨(aI (nwd t1) i).trans w1, (aI (nwd t2) i).trans w2, (aI (nwd t3) i).trans w3⟩
  · exact (aI nww i).trans (c6 i hi)
  · rcases c8 with z | ⟨z0, w, lw, z1, z2, z3⟩ | ⟨z0, w, lw, z1, z2, z3⟩ | z
    · exact Or.inl z
    · exact Or.inr (Or.inl ⟨z0, w, (lv w).mpr (Or.inr lw), z1, by rw [σe w lw]; exact z2, z3⟩)
    · exact Or.inr (Or.inr (Or.inl ⟨z0, w, (lv w).mpr (Or.inr lw), z1, by rw [σe w lw]; exact z2, z3⟩))
    · exact Or.inr (Or.inr (Or.inr z))
  · show zz_fI (zz_pI (t_h0 h x) 0 7 x (zz_fI h 0 7 x + 1)) 0 7 x = nv
    rw [zz_pI_a, r1, env]
  · exact zz_pR_a h 0 5 x none
  · show zz_fR h 0 6 x = oS (kU σ s fr) (f 31)
    rw [oSl _ m13]; exact r6
end NC
/-! path -/
section PT
variable {h : zz_H} {x m27 n r u : Nat} {A : aA} {f : aF} {σ κ : Nat → Nat} {LB LN : List Nat} {sw t2 : Nat}
theorem c_cn (hk : c_kd h x A κ) (hp : c_pa h x A κ) (hP : aPp A) {lv j : Nat} (l4 : lv < 4) (j8 : j < 8) (dj : A 1 j ≠ 0) : pa_cn h (t_pa h x) lv (κ j) ↔ (A 22 (lv + 1) ≠ -1 ∧ A 22 (lv + 1) ≠ nI j) := by
  rw [pa_cn, c_stated hp l4, (hp lv l4).1]
  constructor
  · rintro ⟨z1, z2⟩
    exact ⟨z1, fun e => z2 (oS_s (by omega) e)⟩
  · rintro ⟨z1, z2⟩
    refine ⟨z1, fun e => z2 ?_⟩
    rcases hP (lv + 1) (by omega) (by omega) with ⟨q, -⟩ | ⟨t, ln, t8, dt, q, -⟩
    · exact absurd q z1
    · rw [oS_s (by omega) q] at e
      rw [q, c_κinj hk t8 j8 dt dj (Option.some.inj e)]
/-- a level is stated -/
theorem CA_st (hM : aM A f n sw t2) (hC : CA h x m27 A f σ κ LB LN sw t2) {lv j : Nat} (l4 : lv < 4) (j8 : j < 8) : CA (zz_pR h 3 0 (pa_l h (t_pa h x) lv) (some (κ j))) x m27 (aU A 22 (lv + 1) (nI j)) f σ κ LB LN sw t2 := by
  obtain ⟨c1, c2, c3, c4, c5, c6, c7, c8, c9⟩ := hC
  refine ⟨c1, c2, c3, c4, fun l hl => ?_, c6, c7, c8, c9⟩
  obtain ⟨p1, p2, p3⟩ := c5 l hl
  refine ⟨?_, p2, p3⟩
  show zz_fR (zz_pR h 3 0 (pa_l h (t_pa h x) lv) (some (κ j))) 3 0 (pa_l h (t_pa h x) l) = oS κ (aU A 22 (lv + 1) (nI j) 22 (l + 1))
  by_cases e : l = lv
  · rw [e, zz_pR_a, aU_eq, oS_s (by omega) rfl]
  · rw [zz_pR_n _ _ _ _ ((c1.2.2.1 l lv hl l4).2.2.2 e).1, aU_ne (by omega)]; exact p1
theorem aM_st (hM : aM A f n sw t2) {j : Nat} (l4 : aT A j - 1 < 4) (hl1 : 1 ≤ aT A j) (j8 : j < 8) (dj : A 1 j ≠ 0) (hs : A 22 (aT A j) = -1 ∨ A 22 (aT A j) = nI j) : aM (aU A 22 (aT A j) (nI j)) f n sw t2 := by
  obtain ⟨m1, m2, m3, m4, m5, m6, m7, m8, m9, m10, m11, m12, m13⟩ := hM
  refine ⟨m1, m2, m3, m4, m5, m6, m7, m8, fun l h1 h5 => ?_, m10, m11, m12, m13⟩
  by_cases e : l = aT A j
  · subst e
    obtain ⟨-, -, -, -, ln, l1, l2, l3, -⟩ := m2 j j8 dj
    refine Or.inr ⟨j, ln, j8, dj, aU_eq _ _ _ _, rfl, l2, l3, fun k hk => ?_⟩
    rcases m9 (aT A j) h1 h5 with ⟨q1, q2⟩ | ⟨t, ln', t8, dt, q1, q2, q3, q4, q5⟩
    · have : aC A (aT A j) = 0 := by rw [aC, q2]; rfl
      have hk : k < aC A (aT A j) := hk
      omega
    · have ht : t = j := by
        rcases hs with z | z
        · exact absurd (q1.symm.trans z) (nI_neg (by omega))
        · exact nI_eqI9 (by omega) (by omega) (q1.symm.trans z)
      subst ht
      have : ln' = ln := nI_eqI9 (by omega) (by omega) (q4.symm.trans l3)
      rw [← this]; exact q5 k hk
  · have e22 : aU A 22 (aT A j) (nI j) 22 l = A 22 l := aU_ne e
    rcases m9 l h1 h5 with ⟨q1, q2⟩ | ⟨t, ln', t8, dt, q1, q2, q3, q4, q5⟩
    · exact Or.inl ⟨e22.trans q1, q2⟩
    · exact Or.inr ⟨t, ln', t8, dt, e22.trans q1, q2, q3, q4, q5⟩
/-- a condition more -/
def aAd (A : aA) (l q : Nat) (w op v : Int32) : aA := aU (aU (aU (aU A 24 (3 * l + q) w) 25 (3 * l + q) op) 26 (3 * l + q) v) 23 l (nI (q + 1))
theorem CA_ad (hM : aM A f n sw t2) (hC : CA h x m27 A f σ κ LB LN sw t2) {lv q : Nat} (l4 : lv < 4) (hq : q = aC A (lv + 1)) (q3 : q < 3) (w op v : Int32) : CA (zz_pI (zz_sI (zz_sI (zz_sI h (pl_w h (pa_l h (t_pa h x) lv)) q w) (pl_o h (pa_l h (t_pa h x) lv)) q op) (pl_n h (pa_l h (t_pa h x) lv)) q v) 3 1 (pa_l h (t_pa h x) lv) (nI (q + 1))) x m27 (aAd A (lv + 1) q w op v) f σ κ LB LN sw t2 := by
  obtain ⟨c1, c2, c3, c4, c5, c6, c7, c8, c9⟩ := hC
  obtain ⟨-, -, -, -, t1, t2, t3⟩ := c1.2.1.2.2 lv l4
  have rd : ∀ b i, zz_tg h b ≠ some (90, 3) → zz_aI (zz_sI (zz_sI (zz_sI h (pl_w h (pa_l h (t_pa h x) lv)) q w) (pl_o h (pa_l h (t_pa h x) lv)) q op) (pl_n h (pa_l h (t_pa h x) lv)) q v) b i = zz_aI h b i := fun b i hb => by
    rw [zz_sI_n _ _ _ _ (fun z => hb (by rw [z]; exact t3)), zz_sI_n _ _ _ _ (fun z => hb (by rw [z]; exact t2)), zz_sI_n _ _ _ _ (fun z => hb (by rw [z]; exact t1))]
  refine ⟨c1, c2, c3, ⟨c4.1, c4.2.1, fun s ls => ?_⟩, fun l hl => ?_, fun i hi => ?_, c7, c8, c9⟩
  · obtain ⟨s1, s2, s3, s4, s5, s6⟩ := c4.2.2 s ls
    refine ⟨s1, s2, s3, s4, s5, fun i hi hl => ?_⟩
    exact (rd (sg_w h (σ s)) i (by rw [(c4.1 _ _ s1).2.2.1]; decide)).trans (s6 i hi hl)
  · obtain ⟨p1, p2, p3⟩ := c5 l hl
    have mw := (hM.2.2.2.1 (l + 1) (by omega)).2.1
    by_cases e : l = lv
    · subst e
      refine ⟨p1, ?_, fun i hi => ?_⟩
      · exact (zz_pI_a _ _ _ _ _).trans (aU_eq _ _ _ _).symm
      · have ec : aC (aAd A (l + 1) q w op v) (l + 1) = q + 1 := by
          show (aAd A (l + 1) q w op v 23 (l + 1)).toNatClampNeg = _
          rw [aAd, aU_eq]; exact nI_clamp (by omega)
        rw [ec] at hi
        have d := c1.2.2.1 l l hl hl
        by_cases ei : i = q
        · subst ei
          refine ⟨?_, ?_, ?_⟩
          · refine Eq.trans (b := w) ?_ (aU_eq A 24 (3 * (l + 1) + i) w).symm
            exact (zz_sI_n _ _ _ _ d.2.1).trans ((zz_sI_n _ _ _ _ d.1).trans (zz_sI_at _ _ _ _))
          · refine Eq.trans (b := op) ?_ (aU_eq (aU A 24 (3 * (l + 1) + i) w) 25 (3 * (l + 1) + i) op).symm
            exact (zz_sI_n _ _ _ _ d.2.2.1).trans (zz_sI_at _ _ _ _)
          · refine Eq.trans (b := v) ?_ (aU_eq (aU (aU A 24 (3 * (l + 1) + i) w) 25 (3 * (l + 1) + i) op) 26 (3 * (l + 1) + i) v).symm
            exact zz_sI_at _ _ _ _
        · obtain ⟨q1, q2, q4⟩ := p3 i (by omega)
          have rd2 : ∀ b, zz_aI (zz_sI (zz_sI (zz_sI h (pl_w h (pa_l h (t_pa h x) l)) q w) (pl_o h (pa_l h (t_pa h x) l)) q op) (pl_n h (pa_l h (t_pa h x) l)) q v) b i = zz_aI h b i := fun b => by
            rw [zz_sI_j _ _ _ _ ei, zz_sI_j _ _ _ _ ei, zz_sI_j _ _ _ _ ei]
          refine ⟨(rd2 _).trans (q1.trans ?_), (rd2 _).trans (q2.trans ?_), (rd2 _).trans (q4.trans ?_)⟩
          · exact (aU_ne (A := A) (j := 24) (v := w) (by omega)).symm
          · exact (aU_ne (A := aU A 24 (3 * (l + 1) + q) w) (j := 25) (v := op) (by omega)).symm
          · exact (aU_ne (A := aU (aU A 24 (3 * (l + 1) + q) w) 25 (3 * (l + 1) + q) op) (j := 26) (v := v) (by omega)).symm
    · have d := c1.2.2.1 l lv hl l4
      have d' := c1.2.2.1 lv l l4 hl
      refine ⟨p1, ?_, fun i hi => ?_⟩
      · exact (zz_pI_n _ _ _ _ (d.2.2.2 e).1).trans (p2.trans (aU_ne (by omega)).symm)
      · have ec : aC (aAd A (lv + 1) q w op v) (l + 1) = aC A (l + 1) := by
          show (aAd A (lv + 1) q w op v 23 (l + 1)).toNatClampNeg = _
          rw [aAd, aU_ne (by omega)]; rfl
        rw [ec] at hi
        obtain ⟨q1, q2, q4⟩ := p3 i hi
        refine ⟨Eq.trans ?_ (q1.trans ?_), Eq.trans ?_ (q2.trans ?_), Eq.trans ?_ (q4.trans ?_)⟩
        · exact (zz_sI_n _ _ _ _ d.2.1).trans ((zz_sI_n _ _ _ _ d.1).trans (zz_sI_n _ _ _ _ (d.2.2.2 e).2.1))
        · exact (aU_ne (A := A) (j := 24) (v := w) (by omega)).symm
        · exact (zz_sI_n _ _ _ _ d.2.2.1).trans ((zz_sI_n _ _ _ _ (d.2.2.2 e).2.2.1).trans (zz_sI_n _ _ _ _ d'.1.symm))
        · exact (aU_ne (A := aU A 24 (3 * (lv + 1) + q) w) (j := 25) (v := op) (by omega)).symm
        · exact (zz_sI_n _ _ _ _ (d.2.2.2 e).2.2.2).trans ((zz_sI_n _ _ _ _ d'.2.2.1.symm).trans (zz_sI_n _ _ _ _ d'.2.1.symm))
        · exact (aU_ne (A := aU (aU A 24 (3 * (lv + 1) + q) w) 25 (3 * (lv + 1) + q) op) (j := 26) (v := v) (by omega)).symm
  · exact (rd (t_ww h x) i (by rw [c1.1.2.2.2.2.2.2]; decide)).trans (c6 i hi)
theorem aM_ad (hM : aM A f n sw t2) {j l q : Nat} (el : l = aT A j) (l1 : 1 ≤ l) (l5 : l < 5) (j8 : j < 8) (dj : A 1 j ≠ 0) (hs : A 22 l = nI j) (hq : q = aC A l) (q3 : q < 3) {w : Int32} {w9 ln : Nat} (ew : w = nI w9) (hln : A 4 j = nI ln) (ln4 : ln ≤ 4) (hw : w9 < ln) (op v : Int32) : aM (aAd A l q w op v) f n sw t2 := by
  obtain ⟨m1, m2, m3, m4, m5, m6, m7, m8, m9, m10, m11, m12, m13⟩ := hM
  have e23 : aAd A l q w op v 23 l = nI (q + 1) := aU_eq _ _ _ _
  have e24 : aAd A l q w op v 24 (3 * l + q) = w := aU_eq A 24 (3 * l + q) w
  have n24 : ∀ k, k ≠ 3 * l + q → aAd A l q w op v 24 k = A 24 k := fun k hk => aU_ne (A := A) (j := 24) (v := w) hk
  have ecl : aC (aAd A l q w op v) l = q + 1 := by rw [aC, e23]; exact nI_clamp (by omega)
  have ecn : ∀ i, i ≠ l → aC (aAd A l q w op v) i = aC A i := fun i hi => by
    show (aAd A l q w op v 23 i).toNatClampNeg = _
    rw [aAd, aU_ne hi]; rfl
  have eW : aW (aAd A l q w op v) (3 * l + q) = w9 := by rw [aW, e24, ew]; exact nI_clamp (by omega)
  have nW : ∀ k, k ≠ 3 * l + q → aW (aAd A l q w op v) k = aW A k := fun k hk => by rw [aW, n24 k hk]; rfl
  refine ⟨m1, m2, m3, fun i hi => ?_, m5, m6, m7, m8, fun i h1 h5 => ?_, m10, m11, m12, m13⟩
  · by_cases e : i = l
    · subst e
      rw [ecl]
      refine ⟨e23, by omega, fun k hk => ?_⟩
      by_cases ek : k = q
      · subst ek
        rw [eW, e24]; exact ⟨ew, by omega⟩
      · rw [nW _ (by omega), n24 _ (by omega)]
        exact (m4 i hi).2.2 k (by omega)
    · rw [ecn i e]
      obtain ⟨g1, g2, g3⟩ := m4 i hi
      refine ⟨(aU_ne e).trans g1, g2, fun k hk => ?_⟩
      rw [nW _ (by omega), n24 _ (by omega)]
      exact g3 k hk
  · by_cases e : i = l
    · subst e
      refine Or.inr ⟨j, ln, j8, dj, hs, el.symm, ln4, hln, fun k hk => ?_⟩
      rw [ecl] at hk
      by_cases ek : k = q
      · subst ek; rw [eW]; exact hw
      · rw [nW _ (by omega)]
        rcases m9 i h1 h5 with ⟨q1, -⟩ | ⟨t, ln', t8, dt, q1, q2, q3, q4, q5⟩
        · exact absurd (hs.symm.trans q1) (nI_neg (by omega))
        · have ht : t = j := nI_eqI9 (by omega) (by omega) (q1.symm.trans hs)
          subst ht
          have : ln' = ln := nI_eqI9 (by omega) (by omega) (q4.symm.trans hln)
          rw [← this]; exact q5 k (by omega)
    · rcases m9 i h1 h5 with ⟨q1, q2⟩ | ⟨t, ln', t8, dt, q1, q2, q3, q4, q5⟩
      · exact Or.inl ⟨q1, (aU_ne e).trans q2⟩
      · refine Or.inr ⟨t, ln', t8, dt, q1, q2, q3, q4, fun k hk => ?_⟩
        rw [ecn i e] at hk
        have := (m4 i h5).2.1
        rw [nW _ (by omega)]
        exact q5 k hk
end PT
def aTy (A : aA) (t : Int32) : Prop := 0 ≤ t ∧ t < 8 ∧ A 1 t.toNatClampNeg ≠ 0
def aHw (A : aA) (t i : Int32) : Prop := 0 ≤ i ∧ i < A 4 t.toNatClampNeg
def aP1 (A : aA) (t w op : Int32) : Prop := ¬ aTy A t ∨ op < 0 ∨ 6 < op ∨ (¬ op ≤ 0 ∧ ¬ aHw A t w)
def aP2 (A : aA) (l : Nat) (t op : Int32) : Prop := (A 22 l ≠ -1 ∧ A 22 l ≠ t) ∨ (¬ op ≤ 0 ∧ A 23 l = 3)
section FP
variable {h g : zz_H} {x n r u : Nat} {σ κ : Nat → Nat} {LB LN : List Nat} {sw t2 : Nat} {p1 p2 p3 p4 : Int32}
theorem mm_path {post : Option zz_V → zz_H → Prop} (hc : cR h g r) (hwt : aWt (mA h r)) (hwp : aWp (mA h r)) (q1 : aP1 (mA h r) p1 p2 p3 → post (some (zz_i 0)) (zz_pI (mo_bg g r) 7 0 r 1)) (q2 : ¬ aP1 (mA h r) p1 p2 p3 → aP2 (mA h r) (aT (mA h r) p1.toNatClampNeg) p1 p3 → post (some (zz_i 0)) (mo_bg g r)) (q3 : ¬ aP1 (mA h r) p1 p2 p3 → ¬ aP2 (mA h r) (aT (mA h r) p1.toNatClampNeg) p1 p3 → (p3 ≤ 0 → post (some (zz_i 1)) (zz_sI (mo_bg g r) (mf g r 22) (aT (mA h r) p1.toNatClampNeg) p1)) ∧ (¬ p3 ≤ 0 → post (some (zz_i 1)) (mo_pp g r (aT (mA h r) p1.toNatClampNeg) p1 p2 p3 p4))) : T_M_path [zz_r 7 (some r), zz_i p1, zz_i p2, zz_i p3, zz_i p4] g post := by
  rw [← hc.2.2.1] at hwt hwp q1 q2 q3
  exact ⟨r, p1, p2, p3, p4, rfl, hc.1, hc.2.1, hwt, hwp, q1, fun z => ⟨q2 z, q3 z⟩⟩
theorem gR_pp (hc : cR h g r) (l : Nat) : gR g (mo_pp g r l p1 p2 p3 p4) r (aAd (aU (mA h r) 22 l p1) l (aC (mA h r) l) p2 p3 p4) (qU (mQ h r) 30 (-1)) := by
  have ec : mC g r l = aC (mA h r) l := by rw [← hc.2.2.1]; rfl
  unfold mo_pp
  rw [ec]
  exact gR_s (gR_s (gR_s (gR_s (gR_s (gR_bg (gR_of hc)) (j := 22) rfl l p1 rfl) (j := 24) rfl (3 * l + aC (mA h r) l) p2 rfl) (j := 25) rfl (3 * l + aC (mA h r) l) p3 rfl) (j := 26) rfl (3 * l + aC (mA h r) l) p4 rfl) (j := 23) rfl l (nI (aC (mA h r) l + 1)) rfl
end FP
set_option maxHeartbeats 4000000 in
theorem ok_path : st_path Rel := fun n h x r u p1 p2 p3 p4 hn hR _ => by
  obtain ⟨hok, hap, hu, σ, κ, LB, LN, sw, t2, hM, hC⟩ := hR
  have tok := hC.1.1
  have hwf := CA_twf hM hC
  have hlv := (c_kdwf hC.2.2.1 hM.2.1).2
  have hC0 := CA_h0 hC
  have hM0 := aM_h0 hM
  have c0 : cR h (t_h0 h x) r := cR_rf hok hap
  have M1 : aP1 (mA h r) p1 p2 p3 → zz_up T_M_path [zz_r 7 (some r), zz_i p1, zz_i p2, zz_i p3, zz_i p4] (t_h0 h x) (fun w h2 => ∃ b, w = some (zz_i b) ∧ zz_fI h2 7 0 r = 1 ∧ ((1 : Int32) = 0 → zz_aL h2 u 0 = if b = 0 then 0 else 1) ∧ Rel (n + 1) h2 x r u) := fun z => ⟨_, mm_path c0 hM.2.1 hM.2.2.2.1 (fun _ => ⟨0, rfl, zz_pI_a _ _ _ _ _, fun w => absurd w (by decide), Rel_of (gR_p0 (gR_bg (gR_of c0)) 1) hu (aM_up hM0) hC0⟩) (fun w => absurd z w) (fun w => absurd z w), fun _ _ z => z⟩
  rcases c_tk hC.2.2.1 p1 with ⟨hno, hk⟩ | ⟨hty, j, j8, ej, ej2, dj, hk⟩
  · exact ⟨_, ⟨x, p1, p2, p3, p4, u, rfl, Or.inr ⟨x, p1, p2, p3, p4, rfl, tok, hwf.2.2.1, hlv, fun _ => ⟨rfl, 1, rfl, M1 (Or.inl hno)⟩, fun k z => (by rw [hk] at z; cases z)⟩⟩, fun _ _ z => z⟩
  · have hk1 := ((hC.2.2.1.1 j j8).2 dj).2
    obtain ⟨wt1, wt2, wt3, -, ln, l1, l2, l3, -⟩ := hM.2.1 j j8 dj
    have lveq : ∀ lv, lv < 4 → zz_fI h 1 2 (κ j) = nI (lv + 1) → lv + 1 = aT (mA h r) j := fun lv l4 e => by
      rw [hk1.2.2.2.1, wt1] at e
      exact (nI_eqI9 (by omega) (by omega) e).symm
    -- the reference behind a refusal that answers 0, behind a stated level, behind a condition more
    have NO : ¬ aP1 (mA h r) p1 p2 p3 → aP2 (mA h r) (aT (mA h r) j) p1 p3 → zz_up T_M_path [zz_r 7 (some r), zz_i p1, zz_i p2, zz_i p3, zz_i p4] (zz_sL (t_h0 h x) u 0 (if (0 : Int32) = 0 then 0 else 1)) (fun w h2 => ∃ b, w = some (zz_i b) ∧ zz_fI h2 7 0 r = 0 ∧ ((0 : Int32) = 0 → zz_aL h2 u 0 = if b = 0 then 0 else 1) ∧ Rel (n + 1) h2 x r u) := fun z1 z2 => by
      have c1 : cR h (zz_sL (t_h0 h x) u 0 (if (0 : Int32) = 0 then 0 else 1)) r := cR_sL c0 _ _ _
      have g1 := gR_bg (gR_of c1)
      refine ⟨_, mm_path c1 hM.2.1 hM.2.2.2.1 (fun w => absurd w z1) (fun _ _ => ⟨0, rfl, zz_pI_a _ _ _ _ _, fun _ => ?_, Rel_of g1 hu (aM_up hM0) (CA_sL hC0 _ _ _)⟩) (fun _ w => absurd (ej2 ▸ z2) w), fun _ _ z => z⟩
      rw [gR_u g1 hu]; exact if_pos ⟨rfl, rfl⟩
    have YES : ∀ (h1 : zz_H) (A1 : aA), cR h h1 r → zz_tg h1 u = some (92, 1) → ¬ aP1 (mA h r) p1 p2 p3 → ¬ aP2 (mA h r) (aT (mA h r) j) p1 p3 → aM A1 (qU (mQ h r) 30 (-1)) n sw t2 → CA h1 x (mf h r 27) A1 (qU (mQ h r) 30 (-1)) σ κ LB LN sw t2 → (p3 ≤ 0 → A1 = aU (mA h r) 22 (aT (mA h r) j) p1) → (¬ p3 ≤ 0 → A1 = aAd (aU (mA h r) 22 (aT (mA h r) j) p1) (aT (mA h r) j) (aC (mA h r) (aT (mA h r) j)) p2 p3 p4) → zz_up T_M_path [zz_r 7 (some r), zz_i p1, zz_i p2, zz_i p3, zz_i p4] (zz_sL h1 u 0 (if (1 : Int32) = 0 then 0 else 1)) (fun w h2 => ∃ b, w = some (zz_i b) ∧ zz_fI h2 7 0 r = 0 ∧ ((0 : Int32) = 0 → zz_aL h2 u 0 = if b = 0 then 0 else 1) ∧ Rel (n + 1) h2 x r u) := fun h1 A1 k1 k2 z1 z2 k3 k4 k5 k6 => by
      have c1 : cR h (zz_sL h1 u 0 (if (1 : Int32) = 0 then 0 else 1)) r := cR_sL k1 _ _ _
      have g1 := gR_bg (gR_of c1)
      have k4' := CA_sL k4 u 0 (if (1 : Int32) = 0 then 0 else 1)
      rw [← k1.2.2.2.2] at k4'
      refine ⟨_, mm_path c1 hM.2.1 hM.2.2.2.1 (fun w => absurd w z1) (fun _ w => absurd w (by rw [ej2]; exact z2)) (fun _ _ => ⟨fun w0 => ⟨1, rfl, zz_pI_a _ _ _ _ _, fun _ => ?_, ?_⟩, fun w0 => ⟨1, rfl, zz_pI_a _ _ _ _ _, fun _ => ?_, ?_⟩⟩), fun _ _ z => z⟩
      · rw [ej2]
        have g2 := gR_s g1 (j := 22) rfl (aT (mA h r) j) p1 (b := mf (zz_sL h1 u 0 (if (1 : Int32) = 0 then 0 else 1)) r 22) rfl
        rw [gR_u g2 k2]; exact if_pos ⟨rfl, rfl⟩
      · rw [ej2]
        have g2 := gR_s g1 (j := 22) rfl (aT (mA h r) j) p1 (b := mf (zz_sL h1 u 0 (if (1 : Int32) = 0 then 0 else 1)) r 22) rfl
        rw [← k5 w0] at g2
        exact Rel_of g2 k2 (aM_up k3) k4'
      · rw [ej2]
        have g2 := gR_pp (p1 := p1) (p2 := p2) (p3 := p3) (p4 := p4) c1 (aT (mA h r) j)
        rw [gR_u g2 k2]; exact if_pos ⟨rfl, rfl⟩
      · rw [ej2]
        have g2 := gR_pp (p1 := p1) (p2 := p2) (p3 := p3) (p4 := p4) c1 (aT (mA h r) j)
        rw [← k6 w0] at g2
        exact Rel_of g2 k2 (aM_up k3) k4'
    by_cases hop : 0 ≤ p3 ∧ p3 ≤ 6
    · by_cases h0 : p3 = 0
      · have hp1 : ¬ aP1 (mA h r) p1 p2 p3 := by
          rintro (z | z | z | z)
          · exact z hty
          · exact absurd hop.1 (Int32.not_le.mpr z)
          · exact absurd hop.2 (Int32.not_le.mpr z)
          · exact z.1 (by rw [h0]; decide)
        refine ⟨_, ⟨x, p1, p2, p3, p4, u, rfl, Or.inl ⟨x, p1, p2, p3, p4, rfl, tok, hwf.2.2.1, hlv, fun z => (by rw [hk] at z; cases z), fun k z => ?_⟩⟩, fun _ _ z => z⟩
        rw [hk] at z
        cases z
        refine ⟨fun z => absurd hop z, fun _ => ⟨fun _ lv l4 e => ?_, fun z => absurd h0 z⟩⟩
        have el := lveq lv l4 e
        have hcn := c_cn hC.2.2.1 hC.2.2.2.2.1 hM.2.2.2.2.2.2.2.2.1 l4 j8 dj
        have hp2 : aP2 (mA h r) (aT (mA h r) j) p1 p3 ↔ pa_cn h (t_pa h x) lv (κ j) := by
          rw [hcn, el, ← ej]
          constructor
          · rintro (z | z)
            · exact z
            · exact absurd (by rw [h0]; decide) z.1
          · exact fun z => Or.inl z
        refine ⟨fun z => ⟨0, rfl, Or.inl rfl, hu, 0, rfl, NO hp1 (hp2.mpr z)⟩, fun z => ⟨1, rfl, Or.inr rfl, hu, 0, rfl, ?_⟩⟩
        have hs : mA h r 22 (aT (mA h r) j) = -1 ∨ mA h r 22 (aT (mA h r) j) = nI j := by
          rw [hcn, el] at z
          by_cases q : mA h r 22 (aT (mA h r) j) = -1
          · exact Or.inl q
          · exact Or.inr (Classical.byContradiction (fun w => z ⟨q, w⟩))
        have hC1 := CA_st hM0 hC0 l4 j8
        have hM1 := aM_st hM0 (by omega) wt2 j8 dj hs
        rw [el] at hC1
        exact YES (zz_pR (t_h0 h x) 3 0 (pa_l h (t_pa h x) lv) (some (κ j))) _ c0 hu hp1 (fun w => z (hp2.mp w)) hM1 hC1 (fun _ => by rw [ej]) (fun w => absurd (by rw [h0]; decide) w)
      · have hop0 : ¬ p3 ≤ 0 := fun z => h0 (Int32.le_antisymm z hop.1)
        have hwd : aHw (mA h r) p1 p2 ↔ 0 ≤ p2 ∧ p2 < zz_fI h 1 3 (κ j) := by rw [aHw, ej2, hk1.2.2.2.2.1]
        by_cases hw : 0 ≤ p2 ∧ p2 < zz_fI h 1 3 (κ j)
        · have hp1 : ¬ aP1 (mA h r) p1 p2 p3 := by
            rintro (z | z | z | z)
            · exact z hty
            · exact absurd hop.1 (Int32.not_le.mpr z)
            · exact absurd hop.2 (Int32.not_le.mpr z)
            · exact z.2 (hwd.mpr hw)
          refine ⟨_, ⟨x, p1, p2, p3, p4, u, rfl, Or.inl ⟨x, p1, p2, p3, p4, rfl, tok, hwf.2.2.1, hlv, fun z => (by rw [hk] at z; cases z), fun k z => ?_⟩⟩, fun _ _ z => z⟩
          rw [hk] at z
          cases z
          refine ⟨fun z => absurd hop z, fun _ => ⟨fun z => absurd z h0, fun _ => ⟨fun z => absurd hw z, fun _ lv l4 e => ?_⟩⟩⟩
          have el := lveq lv l4 e
          have hcn := c_cn hC.2.2.1 hC.2.2.2.2.1 hM.2.2.2.2.2.2.2.2.1 l4 j8 dj
          obtain ⟨w1, w2, -⟩ := hM.2.2.2.1 (lv + 1) (by omega)
          have epc : pl_c h (pa_l h (t_pa h x) lv) = aC (mA h r) (lv + 1) := by rw [pl_c, (hC.2.2.2.2.1 lv l4).2.1]; rfl
          have hp2 : aP2 (mA h r) (aT (mA h r) j) p1 p3 ↔ (3 ≤ pl_c h (pa_l h (t_pa h x) lv) ∨ pa_cn h (t_pa h x) lv (κ j)) := by
            rw [hcn, epc, ← el, ← ej]
            constructor
            · rintro (z | z)
              · exact Or.inr z
              · refine Or.inl ?_
                have z2 : mA h r 23 (lv + 1) = nI 3 := z.2
                have := nI_eqI9 (by omega) (by omega) (w1.symm.trans z2)
                omega
            · rintro (z | z)
              · exact Or.inr ⟨hop0, by rw [w1, show aC (mA h r) (lv + 1) = 3 by omega]; rfl⟩
              · exact Or.inl z
          refine ⟨fun z => ⟨0, rfl, Or.inl rfl, hu, 0, rfl, NO hp1 (hp2.mpr z)⟩, fun z => ⟨1, rfl, Or.inr rfl, hu, 0, rfl, ?_⟩⟩
          have zc : ¬ pa_cn h (t_pa h x) lv (κ j) := fun w => z (Or.inr w)
          have hs : mA h r 22 (aT (mA h r) j) = -1 ∨ mA h r 22 (aT (mA h r) j) = nI j := by
            rw [hcn, el] at zc
            by_cases q : mA h r 22 (aT (mA h r) j) = -1
            · exact Or.inl q
            · exact Or.inr (Classical.byContradiction (fun w => zc ⟨q, w⟩))
          have q3 : aC (mA h r) (lv + 1) < 3 := Nat.lt_of_not_le (fun w => z (Or.inl (by rw [epc]; exact w)))
          have hw2 : p2 < nI ln := by rw [← l3]; exact hk1.2.2.2.2.1 ▸ hw.2
          obtain ⟨w4, ew⟩ := nI_in9 (n := ln) rfl (by omega) (Int32.not_lt.mpr hw.1) hw2
          have hCs := CA_st hM0 hC0 l4 j8
          have hMs := aM_st hM0 (by omega) wt2 j8 dj hs
          rw [el] at hCs
          have hC1 := CA_ad hMs hCs l4 (q := aC (mA h r) (lv + 1)) rfl q3 p2 p3 p4
          have hM1 := aM_ad hMs (j := j) (l := aT (mA h r) j) (q := aC (mA h r) (lv + 1)) rfl wt2 (by omega) j8 dj (aU_eq _ _ _ _) (by rw [el]; rfl) q3 ew l3 l2 w4 p3 p4
          rw [el] at hC1 hM1
          obtain ⟨-, -, -, -, tg1, tg2, tg3⟩ := hC.1.2.1.2.2 lv l4
          have ne : ∀ b, zz_tg h b = some (90, 3) → ∀ i, mS i = true → mf h r i ≠ b := fun b hb => mo_not hok hb (Or.inl rfl) (fun z => by
            have := (hok 27 90 4 rfl).2
            rw [← z, hb] at this; cases this)
          have c1 : cR h (pa_ad (t_h0 h x) (t_pa h x) lv (κ j) p2 p3 p4) r := by
            have a1 := cR_s (b := pl_w h (pa_l h (t_pa h x) lv)) (show cR h (zz_pR (t_h0 h x) 3 0 (pa_l h (t_pa h x) lv) (some (κ j))) r from c0) (ne _ tg1) (pl_c h (pa_l h (t_pa h x) lv)) p2
            have a2 := cR_s (b := pl_o h (pa_l h (t_pa h x) lv)) a1 (ne _ tg2) (pl_c h (pa_l h (t_pa h x) lv)) p3
            have a3 := cR_s (b := pl_n h (pa_l h (t_pa h x) lv)) a2 (ne _ tg3) (pl_c h (pa_l h (t_pa h x) lv)) p4
            exact a3
          have e9 : pl_c (t_h0 h x) (pa_l (t_h0 h x) (t_pa h x) lv) = aC (mA h r) (aT (mA h r) j) := epc.trans (by rw [el])
          refine YES (pa_ad (t_h0 h x) (t_pa h x) lv (κ j) p2 p3 p4) _ c1 hu hp1 (fun w => z (hp2.mp w)) hM1 ?_ (fun w => absurd w hop0) (fun _ => by rw [ej])
          unfold pa_ad
          rw [e9]
          exact hC1
        · refine ⟨_, ⟨x, p1, p2, p3, p4, u, rfl, Or.inr ⟨x, p1, p2, p3, p4, rfl, tok, hwf.2.2.1, hlv, fun z => (by rw [hk] at z; cases z), fun k z => ?_⟩⟩, fun _ _ z => z⟩
          rw [hk] at z
          cases z
          exact ⟨fun z => absurd hop z, fun _ => ⟨fun z => absurd z h0, fun _ => ⟨fun _ => ⟨rfl, 1, rfl, M1 (Or.inr (Or.inr (Or.inr ⟨hop0, fun w => hw (hwd.mp w)⟩)))⟩, fun z => absurd z hw⟩⟩⟩
    · refine ⟨_, ⟨x, p1, p2, p3, p4, u, rfl, Or.inr ⟨x, p1, p2, p3, p4, rfl, tok, hwf.2.2.1, hlv, fun z => (by rw [hk] at z; cases z), fun k z => ?_⟩⟩, fun _ _ z => z⟩
      rw [hk] at z
      cases z
      refine ⟨fun _ => ⟨rfl, 1, rfl, M1 ?_⟩, fun z => absurd z hop⟩
      by_cases q : 0 ≤ p3
      · exact Or.inr (Or.inr (Or.inl (Int32.not_le.mp (fun w => hop ⟨q, w⟩))))
      · exact Or.inr (Or.inl (Int32.not_le.mp q))
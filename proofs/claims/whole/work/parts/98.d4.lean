/-! replace -/
section RP2
variable {h g : zz_H} {x n r u : Nat} {σ κ : Nat → Nat} {LB LN : List Nat} {sw t2 : Nat}
def aRn (A : aA) (s : Nat) : Prop := A 5 (aK A s) ≠ -1 ∧ A 18 (4 * s + aSqv A s) ≠ A 27 (aSqv A s)
theorem mm_rep {post : Option zz_V → zz_H → Prop} {gs : Option Nat} (hc : cR h g r) (hM : aM (mA h r) (mQ h r) n sw t2) (eg : mQ h r 30 = mO gs) (hl : ∀ s, gs = some s → aLive (mA h r) s) (q0 : gs = none → post (some (zz_i 0)) (zz_pI (mo_bg g r) 7 0 r 1)) (q1 : ∀ s, gs = some s → ∃ tw, mA h r 17 s = mO tw ∧ (∀ b, tw = some b → aLive (mA h r) b) ∧ (aRn (mA h r) s → post (some (zz_i 0)) (mo_bg g r)) ∧ (¬ aRn (mA h r) s → post (some (zz_i 1)) (mo_rp (mo_bg g r) r s tw))) : T_M_replace [zz_r 7 (some r)] g post := by
  have e30 : zz_fI g 7 30 r = mO gs := by
    have := congrArg (fun q => q 30) hc.2.2.2.1
    exact this.trans eg
  rw [← hc.2.2.1] at hM q1 hl
  exact ⟨r, gs, rfl, hc.1, hc.2.1, hM.1, hM.2.1, hM.2.2.1, e30, hl, q0, q1⟩
theorem c_len4 (hM : aM (mA h r) (mQ h r) n sw t2) {s : Nat} (ls : aLive (mA h r) s) : ∃ ln, 1 ≤ ln ∧ ln ≤ 4 ∧ mA h r 4 (aK (mA h r) s) = nI ln ∧ (mA h r 5 (aK (mA h r) s) = -1 ∨ (aSqv (mA h r) s < ln ∧ mA h r 5 (aK (mA h r) s) = nI (aSqv (mA h r) s))) := by
  obtain ⟨-, k8, -⟩ := hM.1 s ls
  obtain ⟨-, -, -, -, ln, l1, l2, l3, l4⟩ := hM.2.1 _ k8 (hM.2.2.1 s ls)
  refine ⟨ln, l1, l2, l3, l4.imp id (fun ⟨j, j1, j2⟩ => ?_)⟩
  have : aSqv (mA h r) s = j := by rw [aSqv, j2]; exact nI_clamp (by omega)
  rw [this]; exact ⟨j1, j2⟩
theorem rp_same (hM : aM (mA h r) (mQ h r) n sw t2) (hC : CA h x (mf h r 27) (mA h r) (mQ h r) σ κ LB LN sw t2) {s : Nat} (ls : aLive (mA h r) s) : rp_no h x (σ s) ↔ aRn (mA h r) s := by
  obtain ⟨ln, l1, l4, l3, hsq⟩ := c_len4 hM ls
  obtain ⟨-, k8, -⟩ := hM.1 s ls
  have e5 : zz_fI h 1 4 (sg_k h (σ s)) = mA h r 5 (aK (mA h r) s) := by
    rw [c_sgk hC.2.2.2.1 ls]; exact ((hC.2.2.1.1 _ k8).2 (hM.2.2.1 s ls)).2.2.2.2.2.2.1
  have esq : kd_sq h (sg_k h (σ s)) = aSqv (mA h r) s := by rw [kd_sq, e5]; rfl
  unfold rp_no aRn
  rw [e5, esq]
  rcases hsq with z | ⟨z1, z2⟩
  · exact ⟨fun w => absurd z w.1, fun w => absurd z w.1⟩
  · have a1 := (hC.2.2.2.1.2.2 s ls).2.2.2.2.2 (aSqv (mA h r) s) (by omega) (by rw [l3]; exact nI_lt z1 (by omega))
    have a2 := hC.2.2.2.2.2.1 (aSqv (mA h r) s) (by omega)
    rw [a1, a2]
    constructor
    · rintro ⟨w1, w2⟩; exact ⟨w1, fun w => w2 ⟨w1, w⟩⟩
    · rintro ⟨w1, w2⟩; exact ⟨w1, fun w => w2 w.2⟩
end RP2

section RP3
variable {A : aA} {f : aF} {n sw t2 : Nat}
theorem nI_ltJ {a b : Nat} (ha : a < 2 ^ 31) (hb : b < 2 ^ 31) (h : nI a < nI b) : a < b := Nat.lt_of_not_le (fun z => absurd h (Int32.not_lt.mpr (nI_le z ha)))
theorem aTw_one (hT : aTw A) {s : Nat} (h17 : A 17 s = -1) (ln : Nat) (l4 : ln ≤ 4) : aTw (aPw A s ln) := fun a la => by
  rcases hT a la with z | ⟨b, lb, z1, z2, z3, z4⟩
  · exact Or.inl z
  · refine Or.inr ⟨b, lb, z1, z2, z3, fun i hi i4 => ?_⟩
    have na : a ≠ s := fun e => by rw [e, h17] at z1; exact nI_neg (by have := lb.1; omega) z1.symm
    have nb : b ≠ s := fun e => by rw [e, h17] at z2; exact nI_neg (by have := la.1; omega) z2.symm
    rw [aPw_out (by omega), aPw_out (by omega)]
    exact z4 i hi i4
theorem aTw_two (hT : aTw A) {s b ln : Nat} (ls : aLive A s) (lb : aLive A b) (l4 : ln ≤ 4) (e1 : A 4 (aK A s) = nI ln) (e2 : A 4 (aK A b) = nI ln) (h1 : A 17 s = nI b) (h2 : A 17 b = nI s) : aTw (aPw (aPw A s ln) b ln) := fun a la => by
  have s60 := ls.1
  have b60 := lb.1
  have ins : ∀ i, i < ln → aPw (aPw A s ln) b ln 18 (4 * s + i) = A 27 i := fun i hi => by
    by_cases e : s = b
    · rw [e]; exact aPw_in hi
    · rw [aPw_out (by omega), aPw_in hi]
  have inb : ∀ i, i < ln → aPw (aPw A s ln) b ln 18 (4 * b + i) = A 27 i := fun i hi => aPw_in hi
  have la : aLive A a := la
  rcases hT a la with z | ⟨d, ld, z1, z2, z3, z4⟩
  · exact Or.inl z
  · have d60 := ld.1
    have a60 := la.1
    refine Or.inr ⟨d, ld, z1, z2, z3, fun i hi i4 => ?_⟩
    have hi' : nI i < A 4 (aK A a) := hi
    by_cases ea : a = s
    · subst ea
      have ed : d = b := nI_eqI9 (by omega) (by omega) (z1.symm.trans h1)
      subst ed
      rw [e1] at hi'
      have := nI_ltJ (by omega) (by omega) hi'
      rw [ins i this, inb i this]
    · by_cases eb : a = b
      · subst eb
        have ed : d = s := nI_eqI9 (by omega) (by omega) (z1.symm.trans h2)
        subst ed
        rw [e2] at hi'
        have := nI_ltJ (by omega) (by omega) hi'
        rw [ins i this, inb i this]
      · have nd1 : d ≠ s := fun e => by rw [e, h1] at z2; exact eb (nI_eqI9 (by omega) (by omega) z2).symm
        have nd2 : d ≠ b := fun e => by rw [e, h2] at z2; exact ea (nI_eqI9 (by omega) (by omega) z2).symm
        rw [aPw_out (by omega), aPw_out (by omega), aPw_out (by omega), aPw_out (by omega)]
        exact z4 i hi i4
theorem aSame_one {s ln : Nat} (ls : aLive A s) (l4 : ln ≤ 4) (hs : A 5 (aK A s) ≠ -1 → aSqv A s < ln ∧ A 18 (4 * s + aSqv A s) = A 27 (aSqv A s)) (h4 : ∀ a, aLive A a → A 5 (aK A a) ≠ -1 → aSqv A a < 4) : aSame A (aPw A s ln) := by
  refine ⟨fun j k hj => if_neg (fun z => hj z.1), fun a la h5 => ?_⟩
  by_cases e : a = s
  · subst e
    obtain ⟨q1, q2⟩ := hs h5
    rw [aPw_in q1, q2]
  · have := h4 a la h5
    exact aPw_out (by omega)
theorem aM_two (hM : aM A f n sw t2) (s b ln : Nat) (ht : aTw (aPw (aPw A s ln) b ln)) : aM (aPw (aPw A s ln) b ln) f n sw t2 := by
  obtain ⟨m1, m2, m3, m4, m5, m6, m7, m8, m9, m10, m11, m12, m13⟩ := hM
  exact ⟨m1, m2, m3, m4, m5, m6, m7, m8, m9, m10, ht, m12, m13⟩
end RP3
set_option maxHeartbeats 4000000 in
theorem ok_replace : st_replace Rel := fun n h x r u hn hR _ => by
  obtain ⟨hok, hap, hu, σ, κ, LB, LN, sw, t2, hM, hC⟩ := hR
  have hC0 := CA_h0 hC
  have hM0 := aM_h0 hM
  have c0 : cR h (t_h0 h x) r := cR_rf hok hap
  have hwf := CA_twf hM hC
  have okB := c_okB hC.1 hC.2.2.2.2.2.2.1
  have osw := CA_sw hM hC
  have e05 := hC.2.2.2.2.2.2.2.2.2.2.2.2.1
  rcases hM.2.2.2.2.2.2.2.2.2.2.2.1 with z30 | ⟨s, ls, z30⟩
  · have en : zz_fR h 0 5 x = none := e05.trans (oS_n z30)
    exact ⟨_, ⟨x, u, rfl, Or.inr ⟨x, rfl, hwf, okB, osw, fun _ => ⟨rfl, 1, rfl, _, mm_rep (gs := none) c0 hM z30 (fun s z => by cases z) (fun _ => ⟨0, rfl, zz_pI_a _ _ _ _ _, fun z => absurd z (by decide), Rel_of (gR_p0 (gR_bg (gR_of c0)) 1) hu (aM_up hM0) hC0⟩) (fun s z => by cases z), fun _ _ z => z⟩, fun g z => (by rw [en] at z; cases z)⟩⟩, fun _ _ z => z⟩
  · have en : zz_fR h 0 5 x = some (σ s) := e05.trans (oS_s ls.1 z30)
    have hl : ∀ s', some s = some s' → aLive (mA h r) s' := fun s' z => by cases z; exact ls
    have hrp := rp_same hM hC ls
    have htw : ∃ tw, mA h r 17 s = mO tw ∧ ∀ b, tw = some b → aLive (mA h r) b := by
      rcases hM.2.2.2.2.2.2.2.2.2.2.1 s ls with z | ⟨b, lb, z, -⟩
      · exact ⟨none, z, fun b z => by cases z⟩
      · exact ⟨some b, z, fun b' z' => by cases z'; exact lb⟩
    obtain ⟨tw, tw1, tw2⟩ := htw
    by_cases hno : aRn (mA h r) s
    · refine ⟨_, ⟨x, u, rfl, Or.inl ⟨x, rfl, hwf, okB, osw, fun z => (by rw [en] at z; cases z), fun g z => ?_⟩⟩, fun _ _ z => z⟩
      rw [en] at z
      cases z
      refine ⟨fun _ => ⟨0, rfl, Or.inl rfl, hu, 0, rfl, ?_⟩, fun w => absurd (hrp.mpr hno) w⟩
      have c1 : cR h (zz_sL (t_h0 h x) u 0 (if (0 : Int32) = 0 then 0 else 1)) r := cR_sL c0 _ _ _
      have g1 := gR_bg (gR_of c1)
      refine ⟨_, mm_rep (gs := some s) c1 hM z30 hl (fun z => by cases z) (fun s' z => ?_), fun _ _ z => z⟩
      cases z
      refine ⟨tw, tw1, tw2, fun _ => ⟨0, rfl, zz_pI_a _ _ _ _ _, fun _ => ?_, Rel_of g1 hu (aM_up hM0) (CA_sL hC0 _ _ _)⟩, fun w => absurd hno w⟩
      rw [gR_u g1 hu]; exact if_pos ⟨rfl, rfl⟩
    · refine ⟨_, ⟨x, u, rfl, Or.inl ⟨x, rfl, hwf, okB, osw, fun z => (by rw [en] at z; cases z), fun g z => ?_⟩⟩, fun _ _ z => z⟩
      rw [en] at z
      cases z
      refine ⟨fun w => absurd (hrp.mp w) hno, fun _ h2 harr => ?_⟩
      obtain ⟨ln, l1, l4, l3, hsq⟩ := c_len4 hM ls
      have sq4 : ∀ a, aLive (mA h r) a → mA h r 5 (aK (mA h r) a) ≠ -1 → aSqv (mA h r) a < 4 := fun a la h5 => by
        obtain ⟨ln', -, l4', -, q⟩ := c_len4 hM la
        have := (q.resolve_left h5).1
        omega
      have sqs : mA h r 5 (aK (mA h r) s) ≠ -1 → aSqv (mA h r) s < ln ∧ mA h r 18 (4 * s + aSqv (mA h r) s) = mA h r 27 (aSqv (mA h r) s) := fun h5 => ⟨(hsq.resolve_left h5).1, Classical.byContradiction (fun w => hno ⟨h5, w⟩)⟩
      have hsame := aSame_one ls l4 sqs sq4
      have hB1 := CB_tw hM0.1 hM0.2.2.1 hM0.2.2.2.2.1 (CA_CB hC0) ls l4 l3 hsame
      have s1 := (hC.2.2.2.1.2.2 s ls).1
      have nsw : ∀ a, zz_tg h a = some (2, 0) → ∀ j, mS j = true → mf h r j ≠ sg_w h a := fun a ha => mo_not hok (hC.2.2.2.1.1 a 0 ha).2.2.1 (Or.inr rfl) (hC.2.1.2.1 a 0 ha).1
      have c1 : cR h (t_tw (t_h0 h x) x (σ s)) r := cR_tw c0 (nsw _ s1) _
      have emLn : ∀ b ln', mA h r 4 (aK (mA h r) b) = nI ln' → ln' ≤ 4 → ∀ g9, mA g9 r = mA h r → mLn g9 r b = ln' := fun b ln' e1 e2 g9 e3 => by
        have : mLn g9 r b = (mA g9 r 4 (aK (mA g9 r) b)).toNatClampNeg := rfl
        rw [this, e3, e1]; exact nI_clamp (by omega)
      -- the end, out of what both hold
      have fin : ∀ (H1 : zz_H) (A1 : aA), or_arr H1 (t_od h x) h2 → t_od H1 x = t_od h x → cR h H1 r → zz_tg H1 u = some (92, 1) → aM A1 (qU (mQ h r) 30 (-1)) n sw t2 → CB H1 x (mf h r 27) A1 (qU (mQ h r) 30 (-1)) σ κ LB → (∀ g9, cR h g9 r → gR g9 (mo_rp (mo_bg g9 r) r s tw) r A1 (qU (mQ h r) 30 (-1)) ∧ zz_fI (mo_rp (mo_bg g9 r) r s tw) 7 0 r = 0) → ∃ a, some (zz_i 1) = some (zz_i a) ∧ (a = 0 ∨ a = 1) ∧ zz_tg h2 u = some (92, 1) ∧ ∃ k, some (zz_i 0) = some (zz_i k) ∧ zz_up T_M_replace [zz_r 7 (some r)] (zz_sL h2 u 0 (if a = 0 then 0 else 1)) (fun w h3 => ∃ b, w = some (zz_i b) ∧ zz_fI h3 7 0 r = k ∧ (k = 0 → zz_aL h3 u 0 = if b = 0 then 0 else 1) ∧ Rel (n + 1) h3 x r u) := fun H1 A1 ha ho k1 k2 k3 k4 k5 => by
        rw [← ho] at ha
        obtain ⟨hfr, LN', hC1⟩ := CB_arr k3 k4 ha
        have c2 := cR_fr k1 hfr
        have hu2 : zz_tg h2 u = some (92, 1) := by rw [fr_tg hfr]; exact k2
        have c3 : cR h (zz_sL h2 u 0 (if (1 : Int32) = 0 then 0 else 1)) r := cR_sL c2 _ _ _
        obtain ⟨g9, g0⟩ := k5 _ c3
        refine ⟨1, rfl, Or.inr rfl, hu2, 0, rfl, _, mm_rep (gs := some s) c3 hM z30 hl (fun z => by cases z) (fun s' z => ?_), fun _ _ z => z⟩
        cases z
        refine ⟨tw, tw1, tw2, fun w => absurd w hno, fun _ => ⟨1, rfl, g0, fun _ => ?_, ?_⟩⟩
        · rw [gR_u g9 hu2]; exact if_pos ⟨rfl, rfl⟩
        · have hC2 := CA_sL hC1 u 0 (if (1 : Int32) = 0 then 0 else 1)
          rw [← c2.2.2.2.2] at hC2
          exact Rel_of g9 hu2 (aM_up k3) hC2
      cases tw with
      | none =>
        have e24 : zz_fR h 2 4 (σ s) = none := ((hC.2.2.2.1.2.2 s ls).2.2.2.2.1).trans (oS_n tw1)
        have erp : rp_h h x (σ s) = t_tw (t_h0 h x) x (σ s) := by rw [rp_h, e24]
        rw [erp] at harr
        refine fin _ _ harr rfl c1 hu (aM_same hM0 s ln (aTw_one hM.2.2.2.2.2.2.2.2.2.2.1 tw1 ln l4)) hB1 (fun g9 k => ⟨?_, zz_pI_a _ _ _ _ _⟩)
        have := gR_pw (gR_bg (gR_of k)) s ln
        have e9 : mLn (mo_bg g9 r) r s = ln := emLn s ln l3 l4 _ k.2.2.1
        show gR g9 (mo_pw (mo_bg g9 r) r s (mLn (mo_bg g9 r) r s)) r _ _
        rw [e9]; exact this
      | some b =>
        have lb := tw2 b rfl
        obtain ⟨h1, h3, h4, h5⟩ : mA h r 17 s = nI b ∧ mA h r 17 b = nI s ∧ mA h r 8 (aK (mA h r) s) = nI (aK (mA h r) b) ∧ ∀ i, nI i < mA h r 4 (aK (mA h r) s) → i < 4 → mA h r 18 (4 * s + i) = mA h r 18 (4 * b + i) := by
          have tw1 : mA h r 17 s = nI b := tw1
          rcases hM.2.2.2.2.2.2.2.2.2.2.1 s ls with z | ⟨b', lb', z1, z2, z3, z4⟩
          · exact absurd (tw1.symm.trans z) (nI_neg (by have := lb.1; omega))
          · have : b' = b := nI_eqI9 (by have := lb'.1; omega) (by have := lb.1; omega) (z1.symm.trans tw1)
            subst this
            exact ⟨z1, z2, z3, z4⟩
        obtain ⟨-, k8, -⟩ := hM.1 s ls
        obtain ⟨-, k8b, -⟩ := hM.1 b lb
        obtain ⟨e4, e5, e6⟩ : mA h r 4 (aK (mA h r) s) = mA h r 4 (aK (mA h r) b) ∧ mA h r 5 (aK (mA h r) s) = mA h r 5 (aK (mA h r) b) ∧ mA h r 5 (aK (mA h r) s) ≠ -1 := by
          rcases hM.2.2.2.2.2.2.2.2.2.1 _ k8 with z | ⟨-, v, v8, -, z1, -, z2, z3, z4⟩
          · exact absurd (h4.symm.trans z) (nI_neg (by omega))
          · have : v = aK (mA h r) b := nI_eqI9 (by omega) (by omega) (z1.symm.trans h4)
            subst this
            exact ⟨z2, z3, z4⟩
        have esq : aSqv (mA h r) b = aSqv (mA h r) s := by rw [aSqv, aSqv, e5]
        obtain ⟨q1, q2⟩ := sqs e6
        have e24 : zz_fR h 2 4 (σ s) = some (σ b) := ((hC.2.2.2.1.2.2 s ls).2.2.2.2.1).trans (oS_s lb.1 h1)
        have erp : rp_h h x (σ s) = t_tw (t_tw (t_h0 h x) x (σ s)) x (σ b) := by rw [rp_h, e24]
        rw [erp] at harr
        have hsame2 : aSame (aPw (mA h r) s ln) (aPw (aPw (mA h r) s ln) b ln) := by
          refine aSame_one (A := aPw (mA h r) s ln) lb l4 (fun _ => ⟨by show aSqv (mA h r) b < ln; rw [esq]; exact q1, ?_⟩) sq4
          show aPw (mA h r) s ln 18 (4 * b + aSqv (mA h r) b) = mA h r 27 (aSqv (mA h r) b)
          rw [esq]
          by_cases e : b = s
          · rw [e]; exact aPw_in q1
          · rw [aPw_out (by omega), ← h5 _ (by rw [l3]; exact nI_lt q1 (by omega)) (by omega)]; exact q2
        have l3b : mA h r 4 (aK (mA h r) b) = nI ln := e4.symm.trans l3
        have hB2 := CB_tw (A := aPw (mA h r) s ln) hM0.1 hM0.2.2.1 hM0.2.2.2.2.1 hB1 lb l4 l3b hsame2
        have sb := (hC.2.2.2.1.2.2 b lb).1
        have c2 : cR h (t_tw (t_tw (t_h0 h x) x (σ s)) x (σ b)) r := cR_tw c1 (nsw _ sb) _
        refine fin _ _ harr rfl c2 hu (aM_two hM0 s b ln (aTw_two hM.2.2.2.2.2.2.2.2.2.2.1 ls lb l4 l3 l3b h1 h3)) hB2 (fun g9 k => ⟨?_, zz_pI_a _ _ _ _ _⟩)
        · have := gR_pw (gR_pw (gR_bg (gR_of k)) s ln) b ln
          have e9 : mLn (mo_bg g9 r) r s = ln := emLn s ln l3 l4 _ k.2.2.1
          have e8 : mLn (mo_bg g9 r) r b = ln := emLn b ln l3b l4 _ k.2.2.1
          show gR g9 (mo_pw (mo_pw (mo_bg g9 r) r s (mLn (mo_bg g9 r) r s)) r b (mLn (mo_bg g9 r) r b)) r _ _
          rw [e9, e8]; exact this
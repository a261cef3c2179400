/-! bySecond, replace -/
section FR
variable {h g h2 : zz_H} {x m27 n r on : Nat} {A : aA} {f : aF} {σ κ : Nat → Nat} {LB LN : List Nat} {sw t2 : Nat}
theorem fr_R (hf : or_fr h h2 on) : zz_fR h2 = zz_fR h := hf.2.1
theorem fr_ps (hf : or_fr h h2 on) : t_ps h2 x = t_ps h x := by rw [t_ps, fr_R hf]; rfl
theorem fr_tg (hf : or_fr h h2 on) : zz_tg h2 = zz_tg h := hf.1
theorem cR_fr (hc : cR h g r) (hf : or_fr g h2 on) : cR h h2 r := by
  obtain ⟨tg, fi, fr, ai, ar, al⟩ := h2
  obtain ⟨e1, e3, e4, e6, er, ef, e5⟩ := hf
  dsimp only at e1 e3 e4 e6
  subst e1; subst e3; subst e4; subst e6
  refine ⟨hc.1, hc.2.1, hc.2.2.1, ?_, hc.2.2.2.2⟩
  rw [← hc.2.2.2.1]
  funext i
  show (if i = 0 then 0 else fi 7 i r) = (if i = 0 then 0 else zz_fI g 7 i r)
  rw [show fi 7 i r = zz_fI g 7 i r from ef 7 i r (fun z => absurd z.1 (by decide))]
/-- in front of all -/
theorem CA_front (hC : CA h x m27 A f σ κ LB LN sw t2) : CA (zz_pI (zz_pI (zz_pR h 6 0 (t_ps h x) none) 6 1 (t_ps h x) 0) 6 2 (t_ps h x) 0) x m27 A (qU f 28 0) σ κ LB LN sw t2 := by
  obtain ⟨c1, c2, c3, c4, c5, c6, c7, c8, c9⟩ := hC
  exact ⟨c1, c2, c3, c4, c5, c6, c7, Or.inl ⟨rfl, zz_pR_a _ _ _ _ _, zz_pI_a _ _ _ _ _, zz_pI_a _ _ _ _ _⟩, c9⟩
end FR
set_option maxHeartbeats 4000000 in
theorem ok_bySecond : st_bySecond Rel := fun n h x r u p1 hn hR _ hb => by
  obtain ⟨hok, hap, hu, σ, κ, LB, LN, sw, t2, hM, hC⟩ := hR
  have hC0 := CA_h0 hC
  have hM0 := aM_h0 hM
  have c0 : cR h (t_h0 h x) r := cR_rf hok hap
  have hwf := CA_twf hM hC
  have okB := c_okB hC.1 hC.2.2.2.2.2.2.1
  have osw := CA_sw hM hC
  have e53 := hC.2.2.2.2.2.2.2.2.2.1
  by_cases h9 : mQ h r 9 = -1
  · have en : zz_fR h 5 3 (t_od h x) = none := e53.trans (oS_n h9)
    exact ⟨_, ⟨x, p1, rfl, Or.inr ⟨x, p1, rfl, hb, hwf, okB, osw, fun _ => ⟨rfl, 1, rfl, _, ⟨r, p1, rfl, hb, fun _ => ⟨rfl, zz_pI_a _ _ _ _ _, Rel_of (gR_p0 (gR_bg (gR_of c0)) 1) hu (aM_up hM0) hC0⟩, fun w => absurd h9 w⟩, fun _ _ z => z⟩, fun w => absurd en w⟩⟩, fun _ _ z => z⟩
  · have en : zz_fR h 5 3 (t_od h x) ≠ none := fun z => h9 (oS_none (e53.symm.trans z))
    refine ⟨_, ⟨x, p1, rfl, Or.inl ⟨x, p1, rfl, hb, hwf, okB, osw, fun w => absurd w en, fun _ h2 harr => ⟨rfl, 0, rfl, ?_⟩⟩⟩, fun _ _ z => z⟩
    have hB1 : CB (zz_pI (t_h0 h x) 5 5 (t_od h x) p1) x (mf h r 27) (mA h r) (qU (qU (mQ h r) 30 (-1)) 11 p1) σ κ LB := by
      obtain ⟨c1, c2, c3, c4, c5, c6, c7, c8, r1, r2, r3, r4, r5⟩ := CA_CB hC0
      exact ⟨c1, c2, c3, c4, c5, c6, c7, c8, r1, r2, r3, zz_pI_a _ _ _ _ _, r5⟩
    have hM1 : aM (mA h r) (qU (qU (mQ h r) 30 (-1)) 11 p1) n sw t2 := by
      obtain ⟨m1, m2, m3, m4, m5, m6, m7, m8, m9, m10, m11, m12, m13⟩ := hM0
      exact ⟨m1, m2, m3, m4, m5, m6, m7, ⟨m8.1, hb, Or.inr (m8.2.2.resolve_left (fun z => h9 z.1))⟩, m9, m10, m11, m12, m13⟩
    obtain ⟨hfr, LN', hC1⟩ := CB_arr hM1 hB1 harr
    have c1 : cR h (zz_pI (t_h0 h x) 5 5 (t_od h x) p1) r := c0
    have c2 := cR_fr c1 hfr
    have eps0 := fr_ps (x := x) hfr
    have eps : t_ps h2 x = t_ps h x := eps0
    have hC2 := CA_front hC1
    rw [eps] at hC2
    have hu2 : zz_tg h2 u = some (92, 1) := by rw [fr_tg hfr]; exact hu
    have c3 : cR h (zz_pI (zz_pI (zz_pR h2 6 0 (t_ps h x) none) 6 1 (t_ps h x) 0) 6 2 (t_ps h x) 0) r := c2
    refine ⟨_, ⟨r, p1, rfl, hb, fun w => ?_, fun _ => ⟨rfl, zz_pI_a _ _ _ _ _, ?_⟩⟩, fun _ _ z => z⟩
    · exfalso
      have := congrArg (fun q => q 9) c3.2.2.2.1
      exact h9 (this.symm.trans w)
    · have hM2 : aM (mA h r) (qU (qU (qU (mQ h r) 30 (-1)) 11 p1) 28 0) n sw t2 := hM1
      have g9 := gR_p (gR_p (gR_bg (gR_of c3)) (j := 11) (by decide) p1) (j := 28) (by decide) 0
      rw [← c3.2.2.2.2] at hC2
      exact Rel_of g9 hu2 (aM_up hM2) hC2
/-! words are taken -/
def aPw (A : aA) (s ln : Nat) : aA := fun j k => if j = 18 ∧ 4 * s ≤ k ∧ k < 4 * s + ln then A 27 (k - 4 * s) else A j k
theorem mA_pw {g : zz_H} {r : Nat} (hap : mo_ap g r) (s ln : Nat) : mA (mo_pw g r s ln) r = aPw (mA g r) s ln := by
  funext i l
  show (if mS i = true then (if mf g r i = mf g r 18 ∧ 4 * s ≤ l ∧ l < 4 * s + ln then zz_aI g (mf g r 27) (l - 4 * s) else zz_aI g (mf g r i) l) else 0) = (if i = 18 ∧ 4 * s ≤ l ∧ l < 4 * s + ln then zz_aI g (mf g r 27) (l - 4 * s) else if mS i = true then zz_aI g (mf g r i) l else 0)
  by_cases e : i = 18
  · subst e
    rw [if_pos (show mS 18 = true from rfl), if_pos (show mS 18 = true from rfl)]
    by_cases e2 : 4 * s ≤ l ∧ l < 4 * s + ln
    · rw [if_pos ⟨rfl, e2⟩, if_pos ⟨rfl, e2⟩]
    · rw [if_neg (fun z => e2 z.2), if_neg (fun z => e2 z.2)]
  · rw [if_neg (c := i = 18 ∧ _) (fun z => e z.1)]
    by_cases e3 : mS i = true
    · rw [if_pos e3, if_pos e3, if_neg (fun z => hap i 18 (mS_sz e3).1 (by decide) e z.1)]
    · rw [if_neg e3, if_neg e3]
theorem gR_pw {g g' : zz_H} {r : Nat} {A : aA} {f : aF} (h : gR g g' r A f) (s ln : Nat) : gR g (mo_pw g' r s ln) r (aPw A s ln) f := by
  refine ⟨h.1, (mA_pw (gF_ap h.2.2.2 h.1.2) s ln).trans (by rw [h.2.1]), h.2.2.1, h.2.2.2.1, h.2.2.2.2.1, fun b hn => ?_, h.2.2.2.2.2.2⟩
  rw [← h.2.2.2.2.2.1 b hn]
  funext i
  exact if_neg (fun z => hn 18 (by decide) (by rw [z.1, gF_mf h.2.2.2]))
theorem aPw_in {A : aA} {s ln i : Nat} (hi : i < ln) : aPw A s ln 18 (4 * s + i) = A 27 i := by
  have : aPw A s ln 18 (4 * s + i) = A 27 (4 * s + i - 4 * s) := if_pos ⟨rfl, by omega, by omega⟩
  rw [this, show 4 * s + i - 4 * s = i by omega]
theorem aPw_out {A : aA} {s ln k : Nat} (hk : ¬ (4 * s ≤ k ∧ k < 4 * s + ln)) : aPw A s ln 18 k = A 18 k := if_neg (fun z => hk z.2)
section WD
variable {h g h2 : zz_H} {x m27 n r : Nat} {A : aA} {f : aF} {σ κ : Nat → Nat} {LB LN : List Nat} {sw t2 : Nat}
/-- the words by which siblings stand are as they were -/
def aSame (A A' : aA) : Prop := (∀ j k, j ≠ 18 → A' j k = A j k) ∧ ∀ a, aLive A a → A 5 (aK A a) ≠ -1 → A' 18 (4 * a + aSqv A a) = A 18 (4 * a + aSqv A a)
theorem s0_same {A' : aA} (hs : aSame A A') {a b : Nat} (la : aLive A a) (lb : aLive A b) : s0 A' a b ↔ s0 A a b := by
  obtain ⟨h1, h2⟩ := hs
  have ek : ∀ s, aK A' s = aK A s := fun s => by rw [aK, aK, h1 15 s (by decide)]
  have eq : ∀ s, aSqv A' s = aSqv A s := fun s => by rw [aSqv, aSqv, ek, h1 5 _ (by decide)]
  unfold s0
  rw [h1 15 a (by decide), h1 15 b (by decide)]
  constructor
  · rintro (z | ⟨e, z⟩)
    · exact Or.inl z
    · refine Or.inr ⟨e, ?_⟩
      unfold aSq2 at z ⊢
      rw [ek, eq, h1 5 _ (by decide), h1 7 _ (by decide), h1 14 a (by decide), h1 14 b (by decide)] at z
      by_cases h5 : A 5 (aK A a) = -1
      · rcases z with ⟨z, -⟩ | ⟨-, z⟩
        · exact absurd h5 z
        · exact Or.inr ⟨Or.inl h5, z⟩
      · have hb := h2 b lb (by rw [← aK_of e]; exact h5)
        rw [← aSqv_of e] at hb
        rw [h2 a la h5, hb] at z
        exact z
  · rintro (z | ⟨e, z⟩)
    · exact Or.inl z
    · refine Or.inr ⟨e, ?_⟩
      unfold aSq2 at z ⊢
      rw [ek, eq, h1 5 _ (by decide), h1 7 _ (by decide), h1 14 a (by decide), h1 14 b (by decide)]
      by_cases h5 : A 5 (aK A a) = -1
      · rcases z with ⟨z, -⟩ | ⟨-, z⟩
        · exact absurd h5 z
        · exact Or.inr ⟨Or.inl h5, z⟩
      · have hb := h2 b lb (by rw [← aK_of e]; exact h5)
        rw [← aSqv_of e] at hb
        rw [h2 a la h5, hb]
        exact z
/-- a segment of the class takes the words to work with -/
theorem CB_tw (hW : aWl A) (hK : aKd A) (hN : aNum A) (hB : CB h x m27 A f σ κ LB) {s : Nat} (ls : aLive A s) {ln : Nat} (l4 : ln ≤ 4) (eln : A 4 (aK A s) = nI ln) (hs : aSame A (aPw A s ln)) : CB (t_tw h x (σ s)) x m27 (aPw A s ln) f σ κ LB := by
  obtain ⟨c1, c2, c3, c4, c5, c6, c7, c8, c9⟩ := hB
  obtain ⟨s1, s2, s3, s4, s5, s6⟩ := c4.2.2 s ls
  obtain ⟨k15, k8, -⟩ := hW s ls
  have hkl : kd_ln h (sg_k h (σ s)) = ln := by
    rw [kd_ln, c_sgk c4 ls, ((c3.1 _ k8).2 (hK s ls)).2.2.2.2.2.1, eln]; exact nI_clamp (by omega)
  have rd : ∀ b i, b ≠ sg_w h (σ s) → zz_aI (t_tw h x (σ s)) b i = zz_aI h b i := fun b i hb => if_neg hb
  have rs : ∀ i, i < ln → zz_aI (t_tw h x (σ s)) (sg_w h (σ s)) i = zz_aI h (t_ww h x) i := fun i hi => by
    show (if sg_w h (σ s) = sg_w h (σ s) then (if i < kd_ln h (sg_k h (σ s)) then zz_aI h (t_ww h x) i else _) else _) = _
    rw [if_pos rfl, if_pos (by rw [hkl]; exact hi)]
  have hsw4 := (c4.1 _ _ s1).2.2.1
  have hw := aWl_fo hW
  refine ⟨c1, c2, c3, ⟨c4.1, c4.2.1, fun a la => ?_⟩, fun l hl => ?_, fun i hi => ?_, ⟨c7.1, c7.2.1, c7.2.2.1, ?_⟩, c8, c9⟩
  · obtain ⟨a1, a2, a3, a4, a5, a6⟩ := c4.2.2 a la
    refine ⟨a1, a2, a3, a4, a5, fun i hi hl => ?_⟩
    by_cases e : a = s
    · subst e
      have hil : i < ln := by
        have hl : nI i < A 4 (aK A a) := hl
        rw [eln] at hl
        have := Int32.not_le.mpr hl
        exact Nat.lt_of_not_le (fun z => this (nI_le z (by omega)))
      exact (rs i hil).trans ((c6 i hi).trans (aPw_in hil).symm)
    · have hne : σ a ≠ σ s := fun z => e (c_σinj c4 hN la ls z)
      refine (rd _ i (c2.2.2 _ _ _ _ a1 s1 hne)).trans ((a6 i hi hl).trans (aPw_out ?_).symm)
      omega
  · obtain ⟨p1, p2, p3⟩ := c5 l hl
    obtain ⟨-, -, -, -, t1, t2, t3⟩ := c1.2.1.2.2 l hl
    have ne : ∀ b, zz_tg h b = some (90, 3) → b ≠ sg_w h (σ s) := fun b hb z => by rw [z, hsw4] at hb; cases hb
    refine ⟨p1, p2, fun i hi => ?_⟩
    obtain ⟨q1, q2, q3⟩ := p3 i hi
    exact ⟨(rd _ i (ne _ t1)).trans q1, (rd _ i (ne _ t2)).trans q2, (rd _ i (ne _ t3)).trans q3⟩
  · exact (rd _ i (c2.2.1 _ _ s1).2.symm).trans (c6 i hi)
  · refine List.Pairwise.imp_of_mem (fun {a b} ha hb hab => ?_) c7.2.2.2
    exact (fo_R_congr hw (fun a b la lb => (s0_same hs la lb).symm) ((c7.2.2.1 a).mp ha) ((c7.2.2.1 b).mp hb)).mp hab
theorem aM_same (hM : aM A f n sw t2) (s ln : Nat) (ht : aTw (aPw A s ln)) : aM (aPw A s ln) f n sw t2 := by
  obtain ⟨m1, m2, m3, m4, m5, m6, m7, m8, m9, m10, m11, m12, m13⟩ := hM
  exact ⟨m1, m2, m3, m4, m5, m6, m7, m8, m9, m10, ht, m12, m13⟩
theorem cR_tw (hc : cR h g r) {b : Nat} (hn : ∀ j, mS j = true → mf g r j ≠ b) (F : Nat → Int32) : cR h (zz_uI g b F) r := by
  refine ⟨hc.1, hc.2.1, ?_, hc.2.2.2.1, hc.2.2.2.2⟩
  rw [← hc.2.2.1]
  funext i l
  show (if mS i = true then (if mf g r i = b then F l else zz_aI g (mf g r i) l) else 0) = (if mS i = true then zz_aI g (mf g r i) l else 0)
  by_cases e3 : mS i = true
  · rw [if_pos e3, if_pos e3, if_neg (hn i e3)]
  · rw [if_neg e3, if_neg e3]
end WD
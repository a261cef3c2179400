/-! the relation: moves -/
def qU (f : aF) (j : Nat) (v : Int32) : aF := fun i => if i = j then v else f i
def aU (A : aA) (j k : Nat) (v : Int32) : aA := fun i l => if i = j ∧ l = k then v else A i l
theorem mQ_0 (h : zz_H) (r : Nat) (v : Int32) : mQ (zz_pI h 7 0 r v) r = mQ h r := by
  funext i
  show (if i = 0 then 0 else if 7 = 7 ∧ i = 0 ∧ r = r then v else zz_fI h 7 i r) = (if i = 0 then 0 else zz_fI h 7 i r)
  by_cases e : i = 0
  · rw [if_pos e, if_pos e]
  · rw [if_neg e, if_neg e, if_neg (fun z => e z.2.1)]
theorem mQ_p (h : zz_H) (r : Nat) {j : Nat} (hj : j ≠ 0) (v : Int32) : mQ (zz_pI h 7 j r v) r = qU (mQ h r) j v := by
  funext i
  show (if i = 0 then 0 else if 7 = 7 ∧ i = j ∧ r = r then v else zz_fI h 7 i r) = (if i = j then v else if i = 0 then 0 else zz_fI h 7 i r)
  by_cases e : i = j
  · rw [if_neg (by omega), if_pos ⟨rfl, e, rfl⟩, if_pos e]
  · rw [if_neg e]
    by_cases e0 : i = 0
    · rw [if_pos e0, if_pos e0]
    · rw [if_neg e0, if_neg e0, if_neg (fun z => e z.2.1)]
theorem mQ_bg (h : zz_H) (r : Nat) : mQ (mo_bg h r) r = qU (mQ h r) 30 (-1) := by rw [mo_bg, mQ_p _ _ (by decide), mQ_0]
theorem mS_sz {j : Nat} (h : mS j = true) : mo_sz j ≠ none ∧ j ≠ 19 ∧ j ≠ 20 ∧ j ≠ 21 := by
  unfold mS at h
  split at h <;> first | exact ⟨by decide, by decide, by decide, by decide⟩ | cases h
/-- arrays written -/
theorem mA_s {h : zz_H} {r : Nat} (hap : mo_ap h r) {j : Nat} (hj : mS j = true) (k : Nat) (v : Int32) : mA (zz_sI h (mf h r j) k v) r = aU (mA h r) j k v := by
  funext i l
  show (if mS i = true then (if mf h r i = mf h r j ∧ l = k then v else zz_aI h (mf h r i) l) else 0) = (if i = j ∧ l = k then v else if mS i = true then ma h r i l else 0)
  by_cases e : i = j
  · subst e
    rw [if_pos hj]
    by_cases e2 : l = k
    · rw [if_pos ⟨rfl, e2⟩, if_pos ⟨rfl, e2⟩]
    · rw [if_neg (fun z => e2 z.2), if_neg (fun z => e2 z.2), if_pos hj]; rfl
  · rw [if_neg (c := i = j ∧ l = k) (fun z => e z.1)]
    by_cases e3 : mS i = true
    · rw [if_pos e3, if_pos e3, if_neg (fun z => hap i j (mS_sz e3).1 (mS_sz hj).1 e z.1)]; rfl
    · rw [if_neg e3, if_neg e3]
theorem mA_so {h : zz_H} {r : Nat} (hap : mo_ap h r) {y : Nat → Nat → Int64} {xx : Nat → Nat → Int32} (hx : mFr h r xx) : mA (mo_so h y xx) r = mA h r := by
  funext i l
  show (if mS i = true then xx (mf h r i) l else 0) = (if mS i = true then zz_aI h (mf h r i) l else 0)
  by_cases e3 : mS i = true
  · rw [if_pos e3, if_pos e3, hx _ _ (hap i 19 (mS_sz e3).1 (by decide) (mS_sz e3).2.1)]
  · rw [if_neg e3, if_neg e3]
theorem aM_up {A : aA} {f : aF} {n sw t2 : Nat} (h : aM A f n sw t2) : aM A f (n + 1) sw t2 := by
  obtain ⟨m1, m2, m3, m4, m5, m6, ⟨k, k1, k2⟩, m8⟩ := h
  exact ⟨m1, m2, m3, m4, m5, m6, ⟨k, by omega, k2⟩, m8⟩
section MV
variable {h h2 : zz_H} {x m27 n r u : Nat} {A : aA} {f : aF} {σ κ : Nat → Nat} {LB LN : List Nat} {sw t2 : Nat}
/-- what the reference does leaves the class's object -/
theorem CA_c (hC : CA h x m27 A f σ κ LB LN sw t2) (h27 : zz_tg h m27 = some (90, 4)) (e1 : h2.1 = h.1) (e3 : h2.2.2.1 = h.2.2.1) (e5 : h2.2.2.2.2.1 = h.2.2.2.2.1) (hy : ∀ c, c ≠ 7 → zz_fI h2 c = zz_fI h c) (hz : ∀ b m, zz_tg h b = some (90, m) → (m = 3 ∨ m = 4) → b ≠ m27 → zz_aI h2 b = zz_aI h b) : CA h2 x m27 A f σ κ LB LN sw t2 := by
  obtain ⟨tg, fi, fr, ai, ar, al⟩ := h2
  dsimp only at e1 e3 e5
  subst e1; subst e3; subst e5
  obtain ⟨c1, c2, c3, c4, c5, c6, c7, c8, c9⟩ := hC
  have y0 : fi 0 = zz_fI h 0 := hy 0 (by decide)
  have y1 : fi 1 = zz_fI h 1 := hy 1 (by decide)
  have y2 : fi 2 = zz_fI h 2 := hy 2 (by decide)
  have y3 : fi 3 = zz_fI h 3 := hy 3 (by decide)
  have y5 : fi 5 = zz_fI h 5 := hy 5 (by decide)
  have y6 : fi 6 = zz_fI h 6 := hy 6 (by decide)
  refine ⟨c1, c2, ?_, ?_, ?_, ?_, ?_, ?_, ?_⟩
  · refine ⟨fun t ht => ⟨(c3.1 t ht).1, fun d => ⟨((c3.1 t ht).2 d).1, ?_⟩⟩, c3.2⟩
    have := ((c3.1 t ht).2 d).2
    unfold c_k1 at this ⊢
    simp only [show zz_fI (h.1, fi, h.2.2.1, ai, h.2.2.2.2.1, al) 1 = zz_fI h 1 from y1]
    exact this
  · refine ⟨fun a m ha => ?_, c4.2.1, fun s ls => ?_⟩
    · have := c4.1 a m ha
      unfold sg_ok at this ⊢
      simp only [show zz_fI (h.1, fi, h.2.2.1, ai, h.2.2.2.2.1, al) 2 = zz_fI h 2 from y2]
      exact this
    · obtain ⟨s1, s2, s3, s4, s5, s6⟩ := c4.2.2 s ls
      have hok := c4.1 _ _ s1
      refine ⟨s1, ?_, s3, s4, s5, fun i hi hl => ?_⟩
      · show fi 2 0 (σ s) = _
        rw [y2]; exact s2
      · show ai (sg_w h (σ s)) i = _
        have := hz (sg_w h (σ s)) 4 hok.2.2.1 (Or.inr rfl) ((c2.2.1 _ _ s1).1)
        have this : ai (sg_w h (σ s)) = zz_aI h (sg_w h (σ s)) := this
        rw [this]; exact s6 i hi hl
  · intro l hl
    obtain ⟨p1, p2, p3⟩ := c5 l hl
    obtain ⟨-, -, -, -, t1, t2, t3⟩ := c1.2.1.2.2 l hl
    have n3 : ∀ b, zz_tg h b = some (90, 3) → ai b = zz_aI h b := fun b hb => hz b 3 hb (Or.inl rfl) (fun z => by rw [z, h27] at hb; cases hb)
    refine ⟨p1, ?_, fun i hi => ?_⟩
    · show fi 3 1 _ = _
      rw [y3]; exact p2
    · obtain ⟨q1, q2, q3⟩ := p3 i hi
      refine ⟨?_, ?_, ?_⟩
      · show ai (pl_w h (pa_l h (t_pa h x) l)) i = _
        rw [n3 _ t1]; exact q1
      · show ai (pl_o h (pa_l h (t_pa h x) l)) i = _
        rw [n3 _ t2]; exact q2
      · show ai (pl_n h (pa_l h (t_pa h x) l)) i = _
        rw [n3 _ t3]; exact q3
  · intro i hi
    show ai (t_ww h x) i = _
    have : ai (t_ww h x) = zz_aI h (t_ww h x) := hz _ 4 c1.1.2.2.2.2.2.2 (Or.inr rfl) c2.1
    rw [this]; exact c6 i hi
  · refine ⟨?_, c7.2⟩
    show fi 5 2 _ = _
    rw [y5]; exact c7.1
  · unfold c_po at c8 ⊢
    simp only [show zz_fI (h.1, fi, h.2.2.1, ai, h.2.2.2.2.1, al) 6 = zz_fI h 6 from y6]
    exact c8
  · unfold c_rs at c9 ⊢
    simp only [show zz_fI (h.1, fi, h.2.2.1, ai, h.2.2.2.2.1, al) 0 = zz_fI h 0 from y0, show zz_fI (h.1, fi, h.2.2.1, ai, h.2.2.2.2.1, al) 5 = zz_fI h 5 from y5]
    exact c9
/-- nothing is held any more -/
theorem CA_h0 (hC : CA h x m27 A f σ κ LB LN sw t2) : CA (t_h0 h x) x m27 A (qU f 30 (-1)) σ κ LB LN sw t2 := by
  obtain ⟨c1, c2, c3, c4, c5, c6, c7, c8, r1, r2, r3, r4, r5, r6⟩ := hC
  exact ⟨c1, c2, c3, c4, c5, c6, c7, c8, r1, r2, r3, r4, (if_pos ⟨rfl, rfl, rfl⟩ : zz_fR (t_h0 h x) 0 5 x = none), r6⟩
theorem aM_h0 (hM : aM A f n sw t2) : aM A (qU f 30 (-1)) n sw t2 := by
  obtain ⟨m1, m2, m3, m4, m5, m6, m7, m8, m9, m10, m11, m12, m13⟩ := hM
  exact ⟨m1, m2, m3, m4, m5, m6, m7, m8, m9, m10, m11, Or.inl rfl, m13⟩
/-- the relation out of both sides -/
theorem Rel_mk {h1 : zz_H} (hok : mo_ok h2 r) (hap : mo_ap h2 r) (hu : zz_tg h2 u = some (92, 1)) (eA : mA h2 r = A) (eQ : mQ h2 r = f) (hM : aM A f n sw t2) (hC : CA h1 x (mf h2 r 27) A f σ κ LB LN sw t2) (e1 : h2.1 = h1.1) (e3 : h2.2.2.1 = h1.2.2.1) (e5 : h2.2.2.2.2.1 = h1.2.2.2.2.1) (hy : ∀ c, c ≠ 7 → zz_fI h2 c = zz_fI h1 c) (hz : ∀ b m, zz_tg h1 b = some (90, m) → (m = 3 ∨ m = 4) → b ≠ mf h2 r 27 → zz_aI h2 b = zz_aI h1 b) : Rel n h2 x r u := by
  refine ⟨hok, hap, hu, σ, κ, LB, LN, sw, t2, by rw [eA, eQ]; exact hM, ?_⟩
  rw [eA, eQ]
  refine CA_c hC ?_ e1 e3 e5 hy hz
  have := (hok 27 90 4 rfl).2
  rw [zz_tg, e1] at this
  exact this
end MV
theorem zz_pI_c (h : zz_H) (j a : Nat) (v : Int32) : ∀ c, c ≠ 7 → zz_fI (zz_pI h 7 j a v) c = zz_fI h c := fun c hc => by
  funext i b
  exact if_neg (fun z => hc z.1)
theorem mo_bg_c (h : zz_H) (a : Nat) : ∀ c, c ≠ 7 → zz_fI (mo_bg h a) c = zz_fI h c := fun c hc => (zz_pI_c _ _ _ _ c hc).trans (zz_pI_c _ _ _ _ c hc)
/-! the first calls -/
theorem ok_tag : st_tag Rel := fun n h x r u hR => hR.2.2.1
theorem ok_skip : st_skip Rel := fun n h x r u _ hR => by
  obtain ⟨h1, h2, h3, σ, κ, LB, LN, sw, t2, hM, hC⟩ := hR
  exact ⟨h1, h2, h3, σ, κ, LB, LN, sw, t2, aM_up hM, hC⟩
theorem ok_count : st_count Rel := fun n h x r u _ hR _ => by
  obtain ⟨hok, hap, hu, σ, κ, LB, LN, sw, t2, hM, hC⟩ := hR
  have hC1 := CA_h0 hC
  have hM1 := aM_up (aM_h0 hM)
  refine ⟨_, ⟨x, rfl, CA_twf hM hC, ⟨_, rfl, _, ⟨r, rfl, ⟨?_, ?_⟩⟩, fun _ _ z => z⟩⟩, fun _ _ z => z⟩
  · have e : zz_fI (t_h0 h x) 7 13 r = mQ h r 13 := rfl
    rw [e, hM.2.2.2.2.2.1, c_size hC.2.2.2.2.2.2.1, (c_len hC.2.2.2.2.2.2.1).1]
  · exact Rel_mk (h1 := t_h0 h x) hok hap hu rfl (mQ_bg _ _) hM1 hC1 rfl rfl rfl (mo_bg_c _ _) (fun _ _ _ _ _ => rfl)
theorem ok_at : st_at Rel := fun n h x r u _ hR _ => by
  have hR0 := hR
  obtain ⟨hok, hap, hu, σ, κ, LB, LN, sw, t2, hM, hC⟩ := hR
  have fin : Rel (n + 1) (zz_pI h 7 0 r 0) x r u := Rel_mk (h1 := h) hok hap hu rfl (mQ_0 _ _ _) (aM_up hM) hC rfl rfl rfl (zz_pI_c _ _ _ _) (fun _ _ _ _ _ => rfl)
  refine ⟨_, ⟨x, rfl, CA_twf hM hC, ⟨_, rfl, _, ⟨r, rfl, hok, fun hne => ⟨?a, fin⟩, fun he => ?b⟩, fun _ _ z => z⟩⟩, fun _ _ z => z⟩
  case a =>
    rcases hC.2.2.2.2.2.2.2.1 with ⟨-, -, z, -⟩ | ⟨z, -⟩ | ⟨-, w, -, -, -, z⟩ | ⟨-, -, z, -⟩
    · rw [t_sd, if_pos z]; rfl
    · exact absurd z hne
    · rw [t_sd, if_pos z]; rfl
    · rw [t_sd, if_pos z]; rfl
  case b =>
    rcases hC.2.2.2.2.2.2.2.1 with ⟨z, -⟩ | ⟨-, w, lw, e1, e2, e3⟩ | ⟨z, -⟩ | ⟨z, -⟩
    · exact absurd (z.symm.trans he) (by decide)
    · refine ⟨w, lw.1, e1, ?_, fin⟩
      rw [t_sd, if_neg (by rw [e3]; decide), e2]
      show some (zz_i (ma h r 14 w)) = some (zz_i (zz_fI h 2 0 (σ w)))
      rw [(hC.2.2.2.1.2.2 w lw).2.1]; rfl
    · exact absurd (z.symm.trans he) (by decide)
    · exact absurd (z.symm.trans he) (by decide)
/-! a new object -/
/-- the class's object is new -/
def CI (h : zz_H) (x : Nat) : Prop := c_sk h x ∧ (∀ a t, zz_tg h a = some t → t.1 ≠ 1 ∧ t.1 ≠ 2) ∧ (∀ t, t < 8 → zz_aR h (t_kd h x) t = none) ∧ (∀ i, i < 4 → zz_fR h 3 0 (pa_l h (t_pa h x) i) = none ∧ zz_fI h 3 1 (pa_l h (t_pa h x) i) = 0) ∧ (∀ i, i < 4 → zz_aI h (t_ww h x) i = 0) ∧ zz_fI h 5 2 (t_od h x) = 0 ∧ zz_fR h 6 0 (t_ps h x) = none ∧ zz_fI h 6 1 (t_ps h x) = 0 ∧ zz_fI h 6 2 (t_ps h x) = 0 ∧ zz_fI h 0 7 x = 0 ∧ zz_fR h 5 3 (t_od h x) = none ∧ zz_fI h 5 5 (t_od h x) = 0 ∧ zz_fR h 0 5 x = none ∧ zz_fR h 0 6 x = none
section CI
variable {h h2 : zz_H} {x r : Nat}
theorem CI_fr (hC : CI h x) (er : ∀ c, c ≠ 7 → zz_fR h2 c = zz_fR h c) (ei : ∀ c, c ≠ 7 → zz_fI h2 c = zz_fI h c) (tg : ∀ b t, zz_tg h b = some t → zz_tg h2 b = some t) (nt : ∀ b t, zz_tg h2 b = some t → zz_tg h b = some t ∨ (t.1 ≠ 1 ∧ t.1 ≠ 2)) (ar : ∀ b t, zz_tg h b = some t → zz_aR h2 b = zz_aR h b) (ai : zz_aI h2 (t_ww h x) = zz_aI h (t_ww h x)) : CI h2 x := by
  have r0 := er 0 (by decide)
  have r3 := er 3 (by decide)
  have r4 := er 4 (by decide)
  have r5 := er 5 (by decide)
  have r6 := er 6 (by decide)
  have i0 := ei 0 (by decide)
  have i3 := ei 3 (by decide)
  have i5 := ei 5 (by decide)
  have i6 := ei 6 (by decide)
  obtain ⟨⟨⟨a1, a2, a3, a4, a5, a6, a7⟩, ⟨b1, b2, b3⟩, b4, b5, b6, b7, b8, b9⟩, d1, d2, d3, d4, d5, d6, d7, d8, d9, d10, d11, d12, d13⟩ := hC
  have eod : t_od h2 x = t_od h x := by rw [t_od, r0]; rfl
  have ekd : t_kd h2 x = t_kd h x := by rw [t_kd, r0]; rfl
  have epa : t_pa h2 x = t_pa h x := by rw [t_pa, r0]; rfl
  have eps : t_ps h2 x = t_ps h x := by rw [t_ps, r0]; rfl
  have eww : t_ww h2 x = t_ww h x := by rw [t_ww, r0]; rfl
  have epaa : pa_a h2 (t_pa h x) = pa_a h (t_pa h x) := by rw [pa_a, r4]; rfl
  have epl : ∀ i, pa_l h2 (t_pa h x) i = pa_l h (t_pa h x) i := fun i => by rw [pa_l, epaa, ar _ _ b2]; rfl
  have ew : ∀ a, pl_w h2 a = pl_w h a := fun a => by rw [pl_w, r3]; rfl
  have eo : ∀ a, pl_o h2 a = pl_o h a := fun a => by rw [pl_o, r3]; rfl
  have en : ∀ a, pl_n h2 a = pl_n h a := fun a => by rw [pl_n, r3]; rfl
  have eob : ∀ d, or_b h2 d = or_b h d := fun d => by rw [or_b, r5]; rfl
  have eon : ∀ d, or_n h2 d = or_n h d := fun d => by rw [or_n, r5]; rfl
  refine ⟨⟨⟨?_, ?_, ?_, ?_, ?_, ?_, ?_⟩, ⟨?_, ?_, fun i hi => ?_⟩, fun i j hi hj => ?_, ?_, ?_, ?_, ?_, ?_⟩, fun a t ha => ?_, fun t ht => ?_, fun i hi => ?_, fun i hi => ?_, ?_, ?_, ?_, ?_, ?_, ?_, ?_, ?_, ?_⟩
  · rw [ekd, r0]; exact a1
  · rw [eww, r0]; exact a2
  · rw [epa, r0]; exact a3
  · rw [eod, r0]; exact a4
  · rw [eps, r0]; exact a5
  · rw [ekd]; exact tg _ _ a6
  · rw [eww]; exact tg _ _ a7
  · rw [epa, epaa, r4]; exact b1
  · rw [epa, epaa]; exact tg _ _ b2
  · obtain ⟨q1, q2, q3, q4, q5, q6, q7⟩ := b3 i hi
    rw [epa, epaa, epl i, ar _ _ b2]
    refine ⟨q1, ?_⟩
    unfold pl_sk
    rw [ew, eo, en, r3]
    exact ⟨q2, q3, q4, tg _ _ q5, tg _ _ q6, tg _ _ q7⟩
  · rw [epa, epl i, epl j, ew, eo, en, ew, eo, en]; exact b4 i j hi hj
  · rw [eod, eob, r5]; exact b5
  · rw [eod, eon, r5]; exact b6
  · rw [eod, eob]; exact tg _ _ b7
  · rw [eod, eon]; exact tg _ _ b8
  · rw [eod, eob, eon]; exact b9
  · exact (nt a t ha).elim (d1 a t) id
  · rw [ekd, ar _ _ a6]; exact d2 t ht
  · rw [epa, epl i, r3, i3]; exact d3 i hi
  · rw [eww, ai]; exact d4 i hi
  · rw [eod, i5]; exact d5
  · rw [eps, r6]; exact d6
  · rw [eps, i6]; exact d7
  · rw [eps, i6]; exact d8
  · rw [i0]; exact d9
  · rw [eod, r5]; exact d10
  · rw [eod, i5]; exact d11
  · rw [r0]; exact d12
  · rw [r0]; exact d13
theorem CI_newA (hC : CI h x) {a ty n : Nat} (ha : zz_tg h a = none) (h1 : ty ≠ 1 ∧ ty ≠ 2) : CI (zz_newA h ty n a) x := by
  have ne : ∀ {b : Nat} {t : Nat × Nat}, zz_tg h b = some t → b ≠ a := fun hb => zz_tg_ne hb ha
  refine CI_fr hC (fun _ _ => rfl) (fun _ _ => rfl) (fun b t hb => zz_tg_old hb ha) (fun b t hb => ?_) (fun b t hb => ?_) ?_
  · rw [zz_tg_newA] at hb
    by_cases e : b = a
    · rw [if_pos e] at hb; cases hb; exact Or.inr h1
    · rw [if_neg e] at hb; exact Or.inl hb
  · funext j; exact if_neg (ne hb)
  · funext j; exact if_neg (ne hC.1.1.2.2.2.2.2.2)
/-- the reference's arrays so far: apart, empty, and none of them the class's words -/
def MO (h : zz_H) (r w : Nat) (S : List Nat) : Prop := (∃ t, zz_tg h w = some t) ∧ (∀ j ∈ S, ∃ ty n, mo_sz j = some (ty, n) ∧ zz_fR h 7 j r = some (mf h r j) ∧ zz_tg h (mf h r j) = some (ty, n) ∧ mf h r j ≠ w ∧ ∀ i, zz_aI h (mf h r j) i = 0) ∧ ∀ i ∈ S, ∀ j ∈ S, i ≠ j → mf h r i ≠ mf h r j
def MI (h : zz_H) (x r w : Nat) (S : List Nat) (F : aF) : Prop := CI h x ∧ t_ww h x = w ∧ MO h r w S ∧ ∀ j, zz_fI h 7 j r = F j
theorem MI_p {w : Nat} {S : List Nat} {F : aF} (hm : MI h x r w S F) (j : Nat) (v : Int32) : MI (zz_pI h 7 j r v) x r w S (qU F j v) := by
  obtain ⟨h1, h2, h3, h4⟩ := hm
  refine ⟨h1, h2, h3, fun i => ?_⟩
  show (if 7 = 7 ∧ i = j ∧ r = r then v else zz_fI h 7 i r) = (if i = j then v else F i)
  by_cases e : i = j
  · rw [if_pos e, if_pos ⟨rfl, e, rfl⟩]
  · rw [if_neg e, if_neg (fun z => e z.2.1)]; exact h4 i
theorem MI_st {w j ty n : Nat} {S : List Nat} {F : aF} (hm : MI h x r w S F) (hs : mo_st h r j ty n h2) (hz : mo_sz j = some (ty, n)) (hj : j ∉ S) (ht : ty ≠ 1 ∧ ty ≠ 2) : MI h2 x r w (j :: S) F := by
  obtain ⟨h1, h3, ⟨⟨tw, h4⟩, h5, h6⟩, h7⟩ := hm
  obtain ⟨a, ha, rfl⟩ := hs
  have ne : ∀ {b : Nat} {t : Nat × Nat}, zz_tg h b = some t → b ≠ a := fun hb => zz_tg_ne hb ha
  have mj : mf (zz_pR (zz_newA h ty n a) 7 j r (some a)) r j = a := by rw [mf, zz_pR_a]; rfl
  have mo : ∀ i, i ≠ j → mf (zz_pR (zz_newA h ty n a) 7 j r (some a)) r i = mf h r i := fun i hi => by
    have : zz_fR (zz_pR (zz_newA h ty n a) 7 j r (some a)) 7 i r = zz_fR h 7 i r := if_neg (fun z => hi z.2.1)
    rw [mf, this]; rfl
  have nS : ∀ i ∈ S, i ≠ j := fun i hi e => hj (e ▸ hi)
  have tS : ∀ i ∈ S, mf h r i ≠ a := fun i hi => by
    obtain ⟨ty', n', -, -, q, -⟩ := h5 i hi
    exact ne q
  refine ⟨CI_fr (CI_newA (ty := ty) (n := n) h1 ha ht) (fun c hc => ?_) (fun _ _ => rfl) (fun _ _ z => z) (fun _ _ z => Or.inl z) (fun _ _ _ => rfl) rfl, h3, ⟨⟨tw, zz_tg_old h4 ha⟩, fun i hi => ?_, fun i hi i' hi' hne => ?_⟩, h7⟩
  · funext i b; exact if_neg (fun z => hc z.1)
  · rcases List.mem_cons.mp hi with e | hi
    · subst e
      rw [mj]
      exact ⟨ty, n, hz, zz_pR_a _ _ _ _ _, if_pos rfl, (ne h4).symm, fun i => if_pos rfl⟩
    · obtain ⟨ty', n', q1, q2, q3, q4, q5⟩ := h5 i hi
      rw [mo i (nS i hi)]
      refine ⟨ty', n', q1, (if_neg (fun z => nS i hi z.2.1)).trans q2, zz_tg_old q3 ha, q4, fun k => ?_⟩
      have : zz_aI (zz_pR (zz_newA h ty n a) 7 j r (some a)) (mf h r i) k = zz_aI h (mf h r i) k := if_neg (ne q3)
      rw [this]; exact q5 k
  · rcases List.mem_cons.mp hi with e | hi
    · rcases List.mem_cons.mp hi' with e' | hi'
      · exact absurd (e.trans e'.symm) hne
      · rw [e, mj, mo i' (nS i' hi')]; exact (tS i' hi').symm
    · rcases List.mem_cons.mp hi' with e' | hi'
      · rw [e', mj, mo i (nS i hi)]; exact tS i hi
      · rw [mo i (nS i hi), mo i' (nS i' hi')]; exact h6 i hi i' hi' hne
end CI
/-! the class's levels -/
def la (h : zz_H) (b i : Nat) : Nat := (zz_aR h b i).getD 0
def PL (h : zz_H) (b m : Nat) : Prop := ∀ i, i < m → zz_aR h b i = some (la h b i) ∧ (∃ t, zz_tg h (la h b i) = some t) ∧ pl_sk h (la h b i) ∧ zz_fR h 3 0 (la h b i) = none ∧ ∀ j, j < m → pl_w h (la h b i) ≠ pl_o h (la h b j) ∧ pl_w h (la h b i) ≠ pl_n h (la h b j) ∧ pl_o h (la h b i) ≠ pl_n h (la h b j) ∧ (i ≠ j → la h b i ≠ la h b j ∧ pl_w h (la h b i) ≠ pl_w h (la h b j) ∧ pl_o h (la h b i) ≠ pl_o h (la h b j) ∧ pl_n h (la h b i) ≠ pl_n h (la h b j))
/-- what a level's making keeps -/
def PK (h h2 : zz_H) (b : Nat) : Prop := (∀ c, c ≠ 3 → zz_fR h2 c = zz_fR h c) ∧ (zz_fI h = (fun _ _ _ => 0) → zz_fI h2 = (fun _ _ _ => 0)) ∧ (∀ d t, zz_tg h d = some t → zz_tg h2 d = some t) ∧ (∀ d t, zz_tg h2 d = some t → zz_tg h d = some t ∨ (t.1 ≠ 1 ∧ t.1 ≠ 2)) ∧ (∀ d t, zz_tg h d = some t → d ≠ b → zz_aR h2 d = zz_aR h d) ∧ ∀ d t, zz_tg h d = some t → zz_aI h2 d = zz_aI h d
set_option maxHeartbeats 4000000 in
theorem PL_st {h h2 : zz_H} {b m : Nat} {tb : Nat × Nat} (hP : PL h b m) (hb : zz_tg h b = some tb) (hs : P_st h b m h2) : PL h2 b (m + 1) ∧ PK h h2 b := by
  obtain ⟨a, w0, w1, w2, ha, ⟨f0, f1, f2⟩, rfl⟩ := hs
  have n0 : a ≠ w0 := zz_tg_ne (h := zz_new h 3 a) (if_pos rfl : zz_tg (zz_new h 3 a) a = some (3, 0)) f0
  have n1 : a ≠ w1 := zz_tg_ne (h := zz_newA (zz_new h 3 a) 90 3 w0) (zz_tg_old (if_pos rfl : zz_tg (zz_new h 3 a) a = some (3, 0)) f0) f1
  have n2 : a ≠ w2 := zz_tg_ne (h := zz_newA (zz_newA (zz_new h 3 a) 90 3 w0) 90 3 w1) (zz_tg_old (zz_tg_old (if_pos rfl : zz_tg (zz_new h 3 a) a = some (3, 0)) f0) f1) f2
  have n01 : w0 ≠ w1 := zz_tg_ne (h := zz_newA (zz_new h 3 a) 90 3 w0) (if_pos rfl : zz_tg (zz_newA (zz_new h 3 a) 90 3 w0) w0 = some (90, 3)) f1
  have n02 : w0 ≠ w2 := zz_tg_ne (h := zz_newA (zz_newA (zz_new h 3 a) 90 3 w0) 90 3 w1) (zz_tg_old (if_pos rfl : zz_tg (zz_newA (zz_new h 3 a) 90 3 w0) w0 = some (90, 3)) f1) f2
  have n12 : w1 ≠ w2 := zz_tg_ne (h := zz_newA (zz_newA (zz_new h 3 a) 90 3 w0) 90 3 w1) (if_pos rfl : zz_tg (zz_newA (zz_newA (zz_new h 3 a) 90 3 w0) 90 3 w1) w1 = some (90, 3)) f2
  have old : ∀ {d : Nat} {t : Nat × Nat}, zz_tg h d = some t → d ≠ a ∧ d ≠ w0 ∧ d ≠ w1 ∧ d ≠ w2 := fun hd =>
    ⟨zz_tg_ne hd ha, zz_tg_ne (h := zz_new h 3 a) (zz_tg_oldO hd ha) f0, zz_tg_ne (h := zz_newA (zz_new h 3 a) 90 3 w0) (zz_tg_old (zz_tg_oldO hd ha) f0) f1, zz_tg_ne (h := zz_newA (zz_newA (zz_new h 3 a) 90 3 w0) 90 3 w1) (zz_tg_old (zz_tg_old (zz_tg_oldO hd ha) f0) f1) f2⟩
  generalize eh : zz_sR (L_nw (zz_new h 3 a) a w0 w1 w2) b m (some a) = h2
  have tg : ∀ d, zz_tg h2 d = if d = w2 then some (90, 3) else if d = w1 then some (90, 3) else if d = w0 then some (90, 3) else if d = a then some (3, 0) else zz_tg h d := fun d => by rw [← eh]; rfl
  have tk : ∀ d t, zz_tg h d = some t → zz_tg h2 d = some t := fun d t hd => by
    obtain ⟨o1, o2, o3, o4⟩ := old hd
    rw [tg, if_neg o4, if_neg o3, if_neg o2, if_neg o1]; exact hd
  have aR : ∀ d j, d ≠ w0 → d ≠ w1 → d ≠ w2 → ¬ (d = b ∧ j = m) → zz_aR h2 d j = zz_aR h d j := fun d j o2 o3 o4 hn => by
    rw [← eh]
    show (if d = b ∧ j = m then some a else if d = w2 then none else if d = w1 then none else if d = w0 then none else zz_aR h d j) = _
    rw [if_neg hn, if_neg o4, if_neg o3, if_neg o2]
  have aRm : zz_aR h2 b m = some a := by rw [← eh]; exact if_pos ⟨rfl, rfl⟩
  have fR3 : ∀ j d, d ≠ a → zz_fR h2 3 j d = zz_fR h 3 j d := fun j d hd => by
    rw [← eh]
    show (if 3 = 3 ∧ j = 4 ∧ d = a then some w2 else if 3 = 3 ∧ j = 3 ∧ d = a then some w1 else if 3 = 3 ∧ j = 2 ∧ d = a then some w0 else if 3 = 3 ∧ d = a then none else zz_fR h 3 j d) = _
    rw [if_neg (fun z => hd z.2.2), if_neg (fun z => hd z.2.2), if_neg (fun z => hd z.2.2), if_neg (fun z => hd z.2)]
  have g2 : zz_fR h2 3 2 a = some w0 := by rw [← eh]; exact if_pos ⟨rfl, rfl, rfl⟩
  have g3 : zz_fR h2 3 3 a = some w1 := by rw [← eh]; exact if_pos ⟨rfl, rfl, rfl⟩
  have g4 : zz_fR h2 3 4 a = some w2 := by rw [← eh]; exact if_pos ⟨rfl, rfl, rfl⟩
  have g0 : zz_fR h2 3 0 a = none := by rw [← eh]; exact if_pos ⟨rfl, rfl⟩
  have ew : pl_w h2 a = w0 := by rw [pl_w, g2]; rfl
  have eo : pl_o h2 a = w1 := by rw [pl_o, g3]; rfl
  have en : pl_n h2 a = w2 := by rw [pl_n, g4]; rfl
  obtain ⟨-, b0, b1, b2⟩ := old hb
  have lam : la h2 b m = a := by rw [la, aRm]; rfl
  have lao : ∀ i, i < m → la h2 b i = la h b i := fun i hi => by rw [la, aR b i b0 b1 b2 (fun z => by omega)]; rfl
  have lw : ∀ i, i < m → pl_w h2 (la h b i) = pl_w h (la h b i) ∧ pl_o h2 (la h b i) = pl_o h (la h b i) ∧ pl_n h2 (la h b i) = pl_n h (la h b i) := fun i hi => by
    obtain ⟨-, ⟨t, q2⟩, -⟩ := hP i hi
    have := (old q2).1
    rw [pl_w, pl_o, pl_n, fR3 _ _ this, fR3 _ _ this, fR3 _ _ this]; exact ⟨rfl, rfl, rfl⟩
  refine ⟨fun i hi => ?_, fun c hc => ?_, fun hz => ?_, tk, fun d t hd => ?_, fun d t hd hn => ?_, fun d t hd => ?_⟩
  · by_cases e : i = m
    · subst e
      rw [lam]
      refine ⟨aRm, ⟨(3, 0), ?_⟩, ⟨?_, ?_, ?_, ?_, ?_, ?_⟩, g0, fun j hj => ?_⟩
      · rw [tg, if_neg n2, if_neg n1, if_neg n0, if_pos rfl]
      · rw [ew]; exact g2
      · rw [eo]; exact g3
      · rw [en]; exact g4
      · rw [ew, tg, if_neg n02, if_neg n01, if_pos rfl]
      · rw [eo, tg, if_neg n12, if_pos rfl]
      · rw [en, tg, if_pos rfl]
      · by_cases ej : j = i
        · subst ej
          rw [lam, ew, eo, en]
          exact ⟨n01, n02, n12, fun z => absurd rfl z⟩
        · have jm : j < i := by omega
          obtain ⟨q1, ⟨t, q2⟩, ⟨-, -, -, q3, q4, q5⟩, -, -⟩ := hP j jm
          obtain ⟨l1, l2, l3⟩ := lw j jm
          rw [lao j jm, l1, l2, l3, ew, eo, en]
          exact ⟨(old q4).2.1.symm, (old q5).2.1.symm, (old q5).2.2.1.symm, fun _ => ⟨(old q2).1.symm, (old q3).2.1.symm, (old q4).2.2.1.symm, (old q5).2.2.2.symm⟩⟩
    · have im : i < m := by omega
      obtain ⟨q1, ⟨t, q2⟩, ⟨p1, p2, p3, q3, q4, q5⟩, q6, q7⟩ := hP i im
      obtain ⟨l1, l2, l3⟩ := lw i im
      have na := (old q2).1
      rw [lao i im]
      refine ⟨(aR b i b0 b1 b2 (fun z => e z.2)).trans q1, ⟨t, tk _ _ q2⟩, ⟨?_, ?_, ?_, ?_, ?_, ?_⟩, (fR3 0 _ na).trans q6, fun j hj => ?_⟩
      · rw [l1, fR3 _ _ na]; exact p1
      · rw [l2, fR3 _ _ na]; exact p2
      · rw [l3, fR3 _ _ na]; exact p3
      · rw [l1]; exact tk _ _ q3
      · rw [l2]; exact tk _ _ q4
      · rw [l3]; exact tk _ _ q5
      · by_cases ej : j = m
        · subst ej
          rw [lam, l1, l2, l3, ew, eo, en]
          exact ⟨(old q3).2.2.1, (old q3).2.2.2, (old q4).2.2.2, fun _ => ⟨na, (old q3).2.1, (old q4).2.2.1, (old q5).2.2.2⟩⟩
        · have jm : j < m := by omega
          obtain ⟨k1, k2, k3⟩ := lw j jm
          rw [lao j jm, l1, l2, l3, k1, k2, k3]
          exact q7 j jm
  · rw [← eh]
    funext j d
    show (if c = 3 ∧ j = 4 ∧ d = a then some w2 else if c = 3 ∧ j = 3 ∧ d = a then some w1 else if c = 3 ∧ j = 2 ∧ d = a then some w0 else if c = 3 ∧ d = a then none else zz_fR h c j d) = _
    rw [if_neg (fun z => hc z.1), if_neg (fun z => hc z.1), if_neg (fun z => hc z.1), if_neg (fun z => hc z.1)]
  · rw [← eh]
    funext c j d
    show (if c = 3 ∧ d = a then (0 : Int32) else zz_fI h c j d) = 0
    rw [hz]
    by_cases e : c = 3 ∧ d = a
    · rw [if_pos e]
    · rw [if_neg e]
  · rw [tg] at hd
    by_cases e2 : d = w2
    · rw [if_pos e2] at hd; cases hd; exact Or.inr ⟨by decide, by decide⟩
    · rw [if_neg e2] at hd
      by_cases e1 : d = w1
      · rw [if_pos e1] at hd; cases hd; exact Or.inr ⟨by decide, by decide⟩
      · rw [if_neg e1] at hd
        by_cases e0 : d = w0
        · rw [if_pos e0] at hd; cases hd; exact Or.inr ⟨by decide, by decide⟩
        · rw [if_neg e0] at hd
          by_cases ea : d = a
          · rw [if_pos ea] at hd; cases hd; exact Or.inr ⟨by decide, by decide⟩
          · rw [if_neg ea] at hd; exact Or.inl hd
  · obtain ⟨o1, o2, o3, o4⟩ := old hd
    funext j
    exact aR d j o2 o3 o4 (fun z => hn z.1)
  · obtain ⟨o1, o2, o3, o4⟩ := old hd
    rw [← eh]
    funext j
    show (if d = w2 then (0 : Int32) else if d = w1 then 0 else if d = w0 then 0 else zz_aI h d j) = _
    rw [if_neg o4, if_neg o3, if_neg o2]
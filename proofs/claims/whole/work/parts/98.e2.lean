/-! the class arranges, wherever its position is -/
def CD (h : zz_H) (x m27 : Nat) (A : aA) (f : aF) (σ κ : Nat → Nat) (LB : List Nat) : Prop := c_sk h x ∧ c_sp h x m27 ∧ c_kd h x A κ ∧ c_sg h A σ κ ∧ c_pa h x A κ ∧ c_wk h x A ∧ (zz_fI h 5 2 (t_od h x) = nI LB.length ∧ (∀ i e, LB[i]? = some e → zz_aR h (or_b h (t_od h x)) i = some (σ e)) ∧ (∀ e, e ∈ LB ↔ aLive A e) ∧ LB.Pairwise (fo_R (aLive A) (aP A) (s0 A))) ∧ c_rs h x f σ κ
def CE (h : zz_H) (x m27 : Nat) (A : aA) (f : aF) (σ κ : Nat → Nat) (LB LN : List Nat) (sw t2 : Nat) : Prop := c_sk h x ∧ c_sp h x m27 ∧ c_kd h x A κ ∧ c_sg h A σ κ ∧ c_pa h x A κ ∧ c_wk h x A ∧ c_or h x A f σ LB LN sw t2 ∧ c_rs h x f σ κ
section CDS
variable {h h2 : zz_H} {x m27 n : Nat} {A : aA} {f : aF} {σ κ : Nat → Nat} {LB LN : List Nat} {sw t2 : Nat}
theorem CD_CE (hB : CD h x m27 A f σ κ LB) (hl : LN.length = LB.length) (hN : ∀ i e, LN[i]? = some e → zz_aR h (or_n h (t_od h x)) i = some (σ e)) (hm : ∀ e, e ∈ LN ↔ aLive A e) (hp : ∀ v, PV A f sw v → LN.Pairwise (fo_R (aLive A) (aP A) (s1 A f t2 v))) : CE h x m27 A f σ κ LB LN sw t2 := by
  obtain ⟨c1, c2, c3, c4, c5, c6, c7, c9⟩ := hB
  exact ⟨c1, c2, c3, c4, c5, c6, ⟨c7.1, hl, c7.2.1, hN, c7.2.2.1, hm, c7.2.2.2, hp⟩, c9⟩
theorem CD_fr (hB : CD h x m27 A f σ κ LB) (hf : or_fr h h2 (or_n h (t_od h x))) : CD h2 x m27 A f σ κ LB := by
  obtain ⟨tg, fi, fr, ai, ar, al⟩ := h2
  obtain ⟨e1, e3, e4, e6, er, ef, e5⟩ := hf
  dsimp only at e1 e3 e4 e6
  subst e1; subst e3; subst e4; subst e6
  obtain ⟨c1, c2, c3, c4, c5, c6, c7, c9⟩ := hB
  have on9 := c1.2.2.2.2.2.2.1
  have nt : ∀ {b : Nat} {q : Nat × Nat}, zz_tg h b = some q → q ≠ (102, 60) → b ≠ or_n h (t_od h x) := fun hb hq z => by
    rw [z, on9] at hb; exact hq (Option.some.inj hb).symm
  have apa : ar (pa_a h (t_pa h x)) = zz_aR h (pa_a h (t_pa h x)) := er _ (nt c1.2.1.2.1 (by decide))
  have akd : ar (t_kd h x) = zz_aR h (t_kd h x) := er _ (nt c1.1.2.2.2.2.2.1 (by decide))
  have aob : ar (or_b h (t_od h x)) = zz_aR h (or_b h (t_od h x)) := er _ c1.2.2.2.2.2.2.2
  have epl : ∀ i, pa_l (h.1, fi, h.2.2.1, h.2.2.2.1, ar, h.2.2.2.2.2) (t_pa h x) i = pa_l h (t_pa h x) i := fun i => by
    show (ar (pa_a h (t_pa h x)) i).getD 0 = _
    rw [apa]; rfl
  have fI : ∀ c j b, ¬ (c = 2 ∧ (j = 5 ∨ j = 6)) → fi c j b = zz_fI h c j b := ef
  refine ⟨⟨c1.1, ⟨c1.2.1.1, c1.2.1.2.1, fun i hi => ?_⟩, fun i j hi hj => ?_, c1.2.2.2⟩, c2, ⟨fun t ht => ?_, c3.2⟩, ⟨fun a m ha => ?_, c4.2.1, fun s ls => ?_⟩, fun l hl => ?_, c6, ⟨?_, fun i e he => ?_, c7.2.2⟩, ?_⟩
  · obtain ⟨q1, q2⟩ := c1.2.1.2.2 i hi
    show ar (pa_a h (t_pa h x)) i = some (pa_l (h.1, fi, h.2.2.1, h.2.2.2.1, ar, h.2.2.2.2.2) (t_pa h x) i) ∧ pl_sk (h.1, fi, h.2.2.1, h.2.2.2.1, ar, h.2.2.2.2.2) (pa_l (h.1, fi, h.2.2.1, h.2.2.2.1, ar, h.2.2.2.2.2) (t_pa h x) i)
    rw [epl i, apa]; exact ⟨q1, q2⟩
  · have := c1.2.2.1 i j hi hj
    rw [← epl i, ← epl j] at this
    exact this
  · obtain ⟨q1, q2⟩ := c3.1 t ht
    refine ⟨fun z => ?_, fun d => ⟨?_, ?_⟩⟩
    · show ar (t_kd h x) t = none
      rw [akd]; exact q1 z
    · show ar (t_kd h x) t = some (κ t)
      rw [akd]; exact (q2 d).1
    · obtain ⟨k1, k2, k3, k4, k5, k6, k7, k8, k9⟩ := (q2 d).2
      have n1 : ∀ j, ¬ (1 = 2 ∧ (j = 5 ∨ j = 6)) := fun j z => absurd z.1 (by decide)
      exact ⟨k1, (fI 1 0 _ (n1 _)).trans k2, k3, (fI 1 2 _ (n1 _)).trans k4, (fI 1 3 _ (n1 _)).trans k5, (fI 1 4 _ (n1 _)).trans k6, (fI 1 5 _ (n1 _)).trans k7, (fI 1 6 _ (n1 _)).trans k8, k9⟩
  · obtain ⟨q1, q2, q3, q4⟩ := c4.1 a m ha
    refine ⟨q1, q2, q3, ?_⟩
    rcases e5 a with z | z | z
    · exact Or.inl z
    · exact Or.inr z
    · show fi 2 5 a = 0 ∨ fi 2 5 a = 1
      rw [show fi 2 5 a = zz_fI h 2 5 a from z]; exact q4
  · obtain ⟨q1, q2, q3⟩ := c4.2.2 s ls
    exact ⟨q1, (fI 2 0 _ (fun z => by omega)).trans q2, q3⟩
  · obtain ⟨q1, q2, q3⟩ := c5 l hl
    show c_p1 (h.1, fi, h.2.2.1, h.2.2.2.1, ar, h.2.2.2.2.2) A κ (pa_l (h.1, fi, h.2.2.1, h.2.2.2.1, ar, h.2.2.2.2.2) (t_pa h x) l) (l + 1)
    rw [epl l]
    exact ⟨q1, (fI 3 1 _ (fun z => by omega)).trans q2, q3⟩
  · exact (fI 5 2 _ (fun z => by omega)).trans c7.1
  · show ar (or_b h (t_od h x)) i = some (σ e)
    rw [aob]; exact c7.2.1 i e he
  · obtain ⟨r1, r2, r3, r4, r5⟩ := c9
    exact ⟨(fI 0 7 _ (fun z => by omega)).trans r1, r2, fun z => (fI 5 4 _ (fun z => by omega)).trans (r3 z), (fI 5 5 _ (fun z => by omega)).trans r4, r5⟩
set_option maxHeartbeats 4000000 in
theorem CD_arr (hM : aM A f n sw t2) (hB : CD h x m27 A f σ κ LB) (harr : or_arr h (t_od h x) h2) : or_fr h h2 (or_n h (t_od h x)) ∧ ∃ LN, CE h2 x m27 A f σ κ LB LN sw t2 := by
  have hB0 := hB
  obtain ⟨c1, c2, c3, c4, c5, c6, c7, c9⟩ := hB
  obtain ⟨m1, m2, m3, m4, m5, m6, m7, m8, m9, m10, m11, m12, m13, m14⟩ := hM
  obtain ⟨r1, r2, r3, r4, r5⟩ := c9
  have hw := aWl_fo m1
  have hnd : LB.Nodup := pw_nodup (fun a => fo_R_irr a) c7.2.2.2
  have l60 : LB.length ≤ 60 := by
    rw [mCnt_len (G := aLive A) 60 LB hnd (fun s => by rw [c7.2.2.1 s]; exact ⟨fun z => ⟨z.1, z⟩, fun z => z.2⟩)]
    exact mCnt_le _ _
  have hsz : or_s h (t_od h x) = LB.length := by rw [or_s, c7.1]; exact nI_clamp (by omega)
  have hob := c1.2.2.2.2.2.2.2
  have lB : ∀ e ∈ LB, aLive A e := fun e he => (c7.2.2.1 e).mp he
  have cyo : zz_aR (or_cy h (t_od h x)) (or_b h (t_od h x)) = zz_aR h (or_b h (t_od h x)) := by
    funext j
    exact if_neg hob
  have cyn : ∀ i e, LB[i]? = some e → zz_aR (or_cy h (t_od h x)) (or_n h (t_od h x)) i = some (σ e) := fun i e he => by
    show (if or_n h (t_od h x) = or_n h (t_od h x) then (if i < or_s h (t_od h x) then zz_aR h (or_b h (t_od h x)) i else zz_aR h (or_n h (t_od h x)) i) else _) = _
    rw [if_pos rfl, if_pos (by rw [hsz]; exact (List.getElem?_eq_some_iff.mp he).1)]
    exact c7.2.1 i e he
  rcases harr with ⟨hoff, rfl⟩ | ⟨hon, k, sw', y, to, hk, hsw, hsw2, hvl, hto, hAR⟩
  · have hfr : or_fr h (or_cy h (t_od h x)) (or_n h (t_od h x)) := ⟨rfl, rfl, rfl, rfl, fun b hb => by funext j; exact if_neg hb, fun _ _ _ _ => rfl, fun _ => Or.inr (Or.inr rfl)⟩
    refine ⟨hfr, LB, CD_CE (CD_fr hB0 hfr) rfl cyn c7.2.2.1 (fun v _ => ?_)⟩
    have h0 : f 11 = 0 := by
      rcases hoff with z | z
      · rw [← r4]; exact z
      · rw [r2] at z
        rcases m8.2.2 with ⟨-, q⟩ | ⟨q1, -, q3, -⟩
        · exact q
        · exact absurd (oS_none z) (by rw [q3]; exact nI_neg (by omega))
    rw [s1_off h0]; exact c7.2.2.2
  · have h11 : f 11 ≠ 0 := by rw [← r4]; exact hon
    obtain ⟨t8, dt, q9, q10, l2, l24, q4, q5⟩ := m8.2.2.resolve_left (fun z => h11 z.2)
    have ek : k = κ t2 := by
      rw [r2, oS_s (by omega) q9] at hk
      exact (Option.some.inj hk).symm
    have esw : sw' = sw := by
      rw [r3 (by rw [q9]; exact nI_neg (by omega)), q10] at hsw2
      exact (nI_eqI9 (by have := m8.1; omega) (by omega) hsw2).symm
    subst ek; subst esw
    obtain ⟨rk1, rk8, drk⟩ := c_root c3 m2 3 t2 t8 dt
    have t4 := (m2 t2 t8 dt).2.2.1
    obtain ⟨rk2, rk3⟩ := aRt_root m2 3 t2 t8 dt (by omega)
    -- the heap with the values
    have hfr : or_fr h (or_ry (or_cy h (t_od h x)) y) (or_n h (t_od h x)) := ⟨rfl, rfl, rfl, rfl, fun b hb => by funext j; exact if_neg hb, fun c j b hn => hvl.1.1 c j b hn, fun b => hvl.1.2 b⟩
    have hB1 := CD_fr hB0 hfr
    have hsz1 : or_s (or_ry (or_cy h (t_od h x)) y) (t_od h x) = LB.length := by
      have : zz_fI (or_ry (or_cy h (t_od h x)) y) 5 2 (t_od h x) = nI LB.length := hB1.2.2.2.2.2.2.1.1
      rw [or_s, this]; exact nI_clamp (by omega)
    have oBc : ∀ i e, LB[i]? = some e → or_B (or_cy h (t_od h x)) (t_od h x) i = σ e := fun i e he => by
      show (zz_aR (or_cy h (t_od h x)) (or_b h (t_od h x)) i).getD 0 = _
      rw [cyo, c7.2.1 i e he]; rfl
    have hof : ∀ i e e', LB[i]? = some e → aLive A e' → (or_of (or_cy h (t_od h x)) (t_od h x) i (σ e') ↔ aOf A f e e') := fun i e e' he le' => by
      have le := lB e (List.mem_of_getElem? he)
      unfold or_of aOf
      rw [oBc i e he]
      show (zz_fR h 2 1 (σ e) = zz_fR h 5 3 (t_od h x) ∧ sg_at h 1 (σ e) = some (σ e')) ↔ _
      have a1 : sg_at h 1 (σ e) = some (σ (aRo A e)) := by
        have := c_at c3 c4 m1 m3 (l := 1) (by omega) (by omega) le
        rw [if_pos (m1 e le).2.2.2.1] at this; exact this
      have a2 : aLive A (aRo A e) := (fo_ro_lv hw le).1
      rw [a1, (c4.2.2 e le).2.2.1, hk]
      obtain ⟨k15, k8, -⟩ := m1 e le
      constructor
      · rintro ⟨z1, z2⟩
        refine ⟨le, ?_, c_σinj c4 m5 a2 le' (Option.some.inj z2)⟩
        rw [k15, c_κinj c3 k8 t8 (m3 e le) dt (Option.some.inj z1), q9]
      · rintro ⟨-, z1, z2⟩
        rw [q9, k15] at z1
        rw [nI_eqI9 (by omega) (by omega) z1, z2]; exact ⟨rfl, rfl⟩
    have how : ∀ i e, LB[i]? = some e → A 15 e = f 9 → or_ow (or_cy h (t_od h x)) (t_od h x) sw' i = A 18 (4 * e + sw') := fun i e he hke => by
      have le := lB e (List.mem_of_getElem? he)
      unfold or_ow
      rw [oBc i e he]
      have ek : aK A e = t2 := by rw [aK, hke, q9]; exact nI_clamp (by omega)
      exact (c4.2.2 e le).2.2.2.2.2 sw' (by omega) (by rw [ek, q4]; exact nI_lt q5 (by omega))
    have idx : ∀ e, aLive A e → ∃ i, i < LB.length ∧ LB[i]? = some e := fun e le => by
      obtain ⟨i, hi⟩ := List.getElem?_of_mem ((c7.2.2.1 e).mpr le)
      exact ⟨i, (List.getElem?_eq_some_iff.mp hi).1, hi⟩
    have szc : or_s (or_cy h (t_od h x)) (t_od h x) = LB.length := hsz
    rw [hsz] at hvl hAR
    have val : ∀ e, aLive A e → ((∀ s, aLive A s → ¬ aOf A f s e) → y 2 5 (σ e) = 0) ∧ (∀ s, aOf A f s e → y 2 5 (σ e) = 1 ∧ y 2 6 (σ e) ≤ A 18 (4 * s + sw')) ∧ (y 2 5 (σ e) = 1 → ∃ s, aOf A f s e ∧ y 2 6 (σ e) = A 18 (4 * s + sw')) := fun e le => by
      obtain ⟨i, il, hi⟩ := idx e le
      have hq := hvl.2 i (by rw [szc]; exact il)
      rw [oBc i e hi] at hq
      obtain ⟨h1, h2, h3⟩ := hq
      refine ⟨fun z => h1 (fun j hj w => ?_), fun s hs => ?_, fun z => ?_⟩
      · have hj9 : LB[j]? = some LB[j] := List.getElem?_eq_getElem hj
        exact z _ (lB _ (List.mem_of_getElem? hj9)) ((hof j _ e hj9 le).mp w)
      · obtain ⟨j, jl, hj⟩ := idx s hs.1
        obtain ⟨w1, w2⟩ := h2 j jl ((hof j s e hj le).mpr hs)
        rw [how j s hj hs.2.1] at w2
        exact ⟨w1, w2⟩
      · obtain ⟨j, jl, w1, w2⟩ := h3 z
        have hj9 : LB[j]? = some LB[j] := List.getElem?_eq_getElem jl
        have w3 := (hof j _ e hj9 le).mp w1
        exact ⟨_, w3, by rw [w2, how j _ hj9 w3.2.1]⟩
    -- the values as the reference has them
    let v0 : Nat → Int64 := fun e => @ite _ (aLive A e ∧ y 2 5 (σ e) = 1) (Classical.propDecidable _) (y 2 6 (σ e)).toInt64 mB40
    have v1 : ∀ e, aLive A e → y 2 5 (σ e) = 1 → v0 e = (y 2 6 (σ e)).toInt64 := fun e l1 l2 => if_pos ⟨l1, l2⟩
    have v2 : ∀ e, ¬ (aLive A e ∧ y 2 5 (σ e) = 1) → v0 e = mB40 := fun e l1 => if_neg l1
    have hPV : PV A f sw' v0 := fun e e60 => by
      refine ⟨fun z => v2 e (fun ⟨le, w⟩ => ?_), fun s s60 hs => ?_, fun ⟨s, s60, hs⟩ => ?_⟩
      · obtain ⟨s, w1, -⟩ := (val e le).2.2 w
        exact z s w1.1.1 w1
      · have le : aLive A e := by rw [← hs.2.2]; exact (fo_ro_lv hw hs.1).1
        obtain ⟨w1, w2⟩ := (val e le).2.1 s hs
        rw [v1 e le w1]; exact i64_le w2
      · have le : aLive A e := by rw [← hs.2.2]; exact (fo_ro_lv hw hs.1).1
        obtain ⟨w1, -⟩ := (val e le).2.1 s hs
        obtain ⟨s', w3, w4⟩ := (val e le).2.2 w1
        exact ⟨s', w3.1.1, w3, by rw [v1 e le w1, w4]; rfl⟩
    have y01 : ∀ e, aLive A e → y 2 5 (σ e) = 0 ∨ y 2 5 (σ e) = 1 := fun e le => by
      by_cases hc : ∃ s, aOf A f s e
      · obtain ⟨s, hs⟩ := hc; exact Or.inr ((val e le).2.1 s hs).1
      · exact Or.inl ((val e le).1 (fun s _ w => hc ⟨s, w⟩))
    have hvOK : ∀ e, aLive A e → vOK (y 2 5 (σ e)) (y 2 6 (σ e)) (v0 e) := fun e le => by
      rcases y01 e le with z | z
      · exact Or.inl ⟨z, v2 e (fun w => absurd (z.symm.trans w.2) (by decide))⟩
      · exact Or.inr ⟨z, v1 e le z⟩
    have hQroot : ∀ e, aLive A e → aRk A t2 e → A 16 e = -1 ∧ aP A e = none := fun e le hq => by
      obtain ⟨k15, k8, -, -, -, g⟩ := m1 e le
      have ek : aK A e = aRt A 3 t2 := by rw [aK, hq]; exact nI_clamp (by omega)
      have elv : aLv A e = 1 := by rw [aLv, ek]; exact rk3
      rcases g with ⟨g1, -⟩ | ⟨p, g1, -, g3⟩
      · exact ⟨g1, aP_none g1⟩
      · have := (m1 p g1).2.2.2.1; omega
    have hcb : ∀ e ∈ LB, ∀ e' ∈ LB, aRk A t2 e → aRk A t2 e' → (sg_cb (or_ry (or_cy h (t_od h x)) y) (σ e) (σ e') ↔ s1 A f t2 v0 e e') := fun e he e' he' hq hq' => by
      have le := lB e he
      have le' := lB e' he'
      have n0 : y 2 0 (σ e) = A 14 e := (hvl.1.1 2 0 _ (fun z => by omega)).trans (c4.2.2 e le).2.1
      have n0' : y 2 0 (σ e') = A 14 e' := (hvl.1.1 2 0 _ (fun z => by omega)).trans (c4.2.2 e' le').2.1
      have key := cb_s1 (na := A 14 e) (nb := A 14 e') (hvOK e le) (hvOK e' le')
      show ((y 2 5 (σ e) ≠ y 2 5 (σ e') ∧ y 2 5 (σ e) = 1) ∨ (y 2 5 (σ e) = y 2 5 (σ e') ∧ ((y 2 5 (σ e) ≠ 0 ∧ y 2 6 (σ e) ≠ y 2 6 (σ e') ∧ y 2 6 (σ e) < y 2 6 (σ e')) ∨ ((y 2 5 (σ e) = 0 ∨ y 2 6 (σ e) = y 2 6 (σ e')) ∧ y 2 0 (σ e) < y 2 0 (σ e'))))) ↔ _
      rw [n0, n0', key]
      have hsec : aSec A f t2 e := ⟨(hQroot e le hq).1, h11, hq⟩
      constructor
      · intro z; exact Or.inr ⟨hq.trans hq'.symm, Or.inl ⟨hsec, z⟩⟩
      · rintro (⟨z, -⟩ | ⟨-, ⟨-, z⟩ | ⟨z, -⟩⟩)
        · exact absurd (hq.trans hq'.symm) z
        · exact z
        · exact absurd hsec z
    have hQ9 : ∀ e ∈ LB, (zz_fR (or_ry (or_cy h (t_od h x)) y) 2 1 (σ e) = some (kd_root h 3 (κ t2)) ↔ aRk A t2 e) := fun e he => by
      have le := lB e he
      obtain ⟨k15, k8, -⟩ := m1 e le
      show zz_fR h 2 1 (σ e) = _ ↔ _
      rw [(c4.2.2 e le).2.2.1, rk1]
      unfold aRk
      constructor
      · intro z; rw [k15, c_κinj c3 k8 rk8 (m3 e le) drk (Option.some.inj z)]
      · intro z
        rw [k15] at z
        rw [nI_eqI9 (by omega) (by omega) z]
    have hI9 : ∀ e ∈ LB, ∀ e' ∈ LB, (sg_at (or_ry (or_cy h (t_od h x)) y) (sg_lv (or_ry (or_cy h (t_od h x)) y) (σ e)) (σ e') = some (σ e) ↔ fo_in (aP A) e e') := fun e he e' he' => c_in hB1.2.2.1 hB1.2.2.2.1 m1 m3 m5 (lB e he) (lB e' he')
    have hBB : ∀ i e, LB[i]? = some e → zz_aR (or_ry (or_cy h (t_od h x)) y) (or_b (or_ry (or_cy h (t_od h x)) y) (t_od h x)) i = some (σ e) := hB1.2.2.2.2.2.2.1.2.1
    have hob1 : or_b (or_ry (or_cy h (t_od h x)) y) (t_od h x) ≠ or_n (or_ry (or_cy h (t_od h x)) y) (t_od h x) := hob
    have hrp : or_ry (or_cy h (t_od h x)) y = or_rp (or_ry (or_cy h (t_od h x)) y) (zz_aR (or_ry (or_cy h (t_od h x)) y)) := rfl
    have hlr0 := br_lr (σ := σ) (LB := LB) (Q := aRk A t2) (cb := s1 A f t2 v0) (krk := kd_root h 3 (κ t2)) hsz1 hob1 hBB hQ9 hcb (xx := zz_aR (or_ry (or_cy h (t_od h x)) y)) (fun _ _ => rfl) (pv := none) (fun q hq => by cases hq) LB.length (Nat.le_refl _)
    have hlr0 : or_lr (or_ry (or_cy h (t_od h x)) y) (t_od h x) (kd_root h 3 (κ t2)) none LB.length = _ := hlr0
    rw [hlr0] at hAR
    have in0 := ar_lr_in (ln := LB.length) (P := ar_P (aRk A t2) (s1 A f t2 v0) (fun i => LB.getD i 0) none) (cb := s1 A f t2 v0) (B := fun i => LB.getD i 0) LB.length
    obtain ⟨N', x2, e1, e2, e3, e4⟩ := br_AR (σ := σ) (LB := LB) (Q := aRk A t2) (cb := s1 A f t2 v0) (I := fo_in (aP A)) (krk := kd_root h 3 (κ t2)) hsz1 hob1 hBB hQ9 hcb hI9 LB.length to _ (zz_aR (or_ry (or_cy h (t_od h x)) y)) (fun j => LB.getD j 0) h2 (fun _ _ => rfl) (fun j hj => by
      have hj9 : LB[j]? = some LB[j] := List.getElem?_eq_getElem hj
      show zz_aR (or_cy h (t_od h x)) (or_n h (t_od h x)) j = some (σ (LB.getD j 0))
      rw [cyn j _ hj9, getD_at hj9]) (fun hlt => by
      rcases in0 with z | z
      · omega
      · exact z.2.1) hAR
    obtain ⟨to1, to2, to3⟩ := hto
    rw [hsz1] at to1 to3
    have hkr : ∀ i e, LB[i]? = some e → (kd_root (or_ry (or_cy h (t_od h x)) y) 3 (sg_k (or_ry (or_cy h (t_od h x)) y) (or_B (or_ry (or_cy h (t_od h x)) y) (t_od h x) i)) = kd_root h 3 (κ t2) ↔ aRk A t2 (aRo A e)) := fun i e he => by
      have le := lB e (List.mem_of_getElem? he)
      have l4 := (m1 e le).2.2.2.2.1
      obtain ⟨-, k8, -⟩ := m1 e le
      have b1 : or_B (or_ry (or_cy h (t_od h x)) y) (t_od h x) i = σ e := oBc i e he
      rw [b1]
      show kd_root h 3 (sg_k h (σ e)) = _ ↔ _
      obtain ⟨s1', s2', s3'⟩ := c_root c3 m2 3 (aK A e) k8 (m3 e le)
      have lr := (fo_ro_lv hw le).1
      rw [c_sgk c4 le, s1', rk1]
      have er := aRt_seg m1 m2 m3 m14 3 e le (by omega)
      unfold aRk
      rw [(m1 (aRo A e) lr).1, ← er]
      constructor
      · intro z; rw [c_κinj c3 s2' rk8 s3' drk z]
      · intro z; rw [nI_eqI9 (by omega) (by omega) z]
    have okk := ar_lr_ok (ln := LB.length) (P := ar_P (aRk A t2) (s1 A f t2 v0) (fun i => LB.getD i 0) none) (cb := s1 A f t2 v0) (B := fun i => LB.getD i 0)
    have hB9 : ∀ i, i < LB.length → ∃ e, LB[i]? = some e ∧ LB.getD i 0 = e ∧ aLive A e := fun i hi => by
      have h1 : LB[i]? = some LB[i] := List.getElem?_eq_getElem hi
      exact ⟨_, h1, getD_at h1, lB _ (List.mem_of_getElem? h1)⟩
    have hsb1 := s1_sb (f := f) (t2 := t2) (v := v0) m5
    have ok := okk (fun i j hi hj hP hP' hne => by
      obtain ⟨a, a1, a2, a3⟩ := hB9 i hi
      obtain ⟨b, b1, b2, b3⟩ := hB9 j hj
      have qa := hP.1
      have qb := hP'.1
      simp only [a2, b2] at qa qb ⊢
      exact hsb1.2.1 a b a3 b3 ((hQroot a a3 qa).2.trans (hQroot b b3 qb).2.symm) (fun z => hne (nd_idx hnd a1 (z ▸ b1)))) (fun i j k hi hj hk hP hP' hP'' => by
      obtain ⟨a, a1, a2, a3⟩ := hB9 i hi
      obtain ⟨b, b1, b2, b3⟩ := hB9 j hj
      obtain ⟨d, d1, d2, d3⟩ := hB9 k hk
      have qa := hP.1
      have qb := hP'.1
      have qd := hP''.1
      simp only [a2, b2, d2] at qa qb qd ⊢
      exact hsb1.2.2 a b d a3 b3 d3 ((hQroot a a3 qa).2.trans (hQroot b b3 qb).2.symm) ((hQroot b b3 qb).2.trans (hQroot d d3 qd).2.symm)) LB.length (Nat.le_refl _)
    obtain ⟨LN, n1, n2, n3, n4⟩ := ar_ok (Q := aRk A t2) (I := fo_in (aP A)) (cb := s1 A f t2 v0) (p := to) (s01_two (A := A) (f := f) (t2 := t2) (v := v0)) hw (s0_sb m5) hsb1 (fun e le hq => (hQroot e le hq).2) c7.2.2.1 c7.2.2.2 (fun j e hj hjt z => to2 j hjt ((hkr j e hj).mpr z)) (fun e he => (hkr to e he).mp (to3 (List.getElem?_eq_some_iff.mp he).1)) to1 (fun _ _ _ _ => Iff.rfl) (fun _ _ _ _ _ _ => Iff.rfl) LB.length [] to _ (fun j => LB.getD j 0) N' List.Pairwise.nil (fun q hq => by cases hq) (fun q hq => by cases hq) rfl (fun j hj => by
      rw [List.flatMap_nil, List.append_nil, List.getElem?_take_of_lt hj]
      have hj9 : LB[j]? = some LB[j] := List.getElem?_eq_getElem (by omega)
      show _ = some (LB.getD j 0)
      rw [getD_at hj9]; exact hj9) (fun j _ hj => by
      have hj9 : LB[j]? = some LB[j] := List.getElem?_eq_getElem hj
      show _ = some (LB.getD j 0)
      rw [getD_at hj9]; exact hj9) (by
      have hP9 : ∀ (i e : Nat), LB[i]? = some e → (ar_P (aRk A t2) (s1 A f t2 v0) (fun i => LB.getD i 0) none i ↔ aRk A t2 e) := fun i e he => by
        unfold ar_P
        simp only [getD_at he]
        exact ⟨fun z => z.1, fun z => ⟨z, fun q hq => by cases hq⟩⟩
      rcases ok with ⟨o1, o2⟩ | ⟨o1, o2, o3⟩
      · refine Or.inl ⟨o1, fun q lq hq => ?_⟩
        obtain ⟨i, il, hi⟩ := idx q lq
        exact absurd ((hP9 i q hi).mpr hq) (o2 i il)
      · obtain ⟨e, f1, -, f3⟩ := hB9 _ o1
        refine Or.inr ⟨e, f1, (hP9 _ e f1).mp o2, fun z => (by cases z), fun q lq hq _ hne => ?_⟩
        obtain ⟨i, il, hi⟩ := idx q lq
        have := o3 i il ((hP9 i q hi).mpr hq) (fun z => hne (by rw [z, f1] at hi; exact (Option.some.inj hi).symm))
        simp only [getD_at f1, getD_at hi] at this
        exact this) (by simp) e4
    have hfr2 : or_fr h h2 (or_n h (t_od h x)) := by
      rw [e1]
      refine ⟨rfl, rfl, rfl, rfl, fun b hb => ?_, hfr.2.2.2.2.2.1, hfr.2.2.2.2.2.2⟩
      have : x2 b = zz_aR (or_ry (or_cy h (t_od h x)) y) b := e2 b hb
      exact this.trans (hfr.2.2.2.2.1 b hb)
    refine ⟨hfr2, LN, CD_CE (CD_fr hB0 hfr2) n3 (fun i e he => ?_) n2 (fun v hv => ?_)⟩
    · have il : i < LB.length := by rw [← n3]; exact (List.getElem?_eq_some_iff.mp he).1
      have h9 := n4 i il
      rw [he] at h9
      rw [e1]
      show x2 (or_n h (t_od h x)) i = some (σ e)
      have := e3 i il
      rw [← Option.some.inj h9] at this
      exact this
    · refine List.Pairwise.imp_of_mem (fun {a b} ha hb hab => ?_) n1
      refine (fo_R_congr hw (fun a b la lb => ?_) ((n2 a).mp ha) ((n2 b).mp hb)).mp hab
      unfold s1
      rw [PV_uniq hPV hv a la.1, PV_uniq hPV hv b lb.1]
end CDS
/-! the class arranges: what it has now is sorted as the reference sorts -/
section CG
variable {live : Nat → Prop} {par : Nat → Option Nat} {lv : Nat → Nat} {sib sib' : Nat → Nat → Prop}
theorem fo_R_congr (hw : fo_wf live par lv) (hs : ∀ a b, live a → live b → (sib a b ↔ sib' a b)) {a b : Nat} (ha : live a) (hb : live b) : fo_R live par sib a b ↔ fo_R live par sib' a b := by
  have rk : ∀ s, live s → fo_rk live par sib s = fo_rk live par sib' s := fun s ls => by
    unfold fo_rk
    rw [mCnt_eq (P := fun t => live t ∧ par t = par s ∧ sib t s) (Q := fun t => live t ∧ par t = par s ∧ sib' t s) 60 (fun i _ => ⟨fun ⟨z1, z2, z3⟩ => ⟨z1, z2, (hs i s z1 ls).mp z3⟩, fun ⟨z1, z2, z3⟩ => ⟨z1, z2, (hs i s z1 ls).mpr z3⟩⟩)]
  have kk : ∀ s, live s → fo_k live par sib s = fo_k live par sib' s := fun s ls => by
    unfold fo_k
    apply List.map_congr_left
    intro e he
    obtain ⟨i, hi⟩ := List.getElem?_of_mem he
    exact rk e (fo_mem hw s ls i e hi).1
  unfold fo_R
  rw [kk a ha, kk b hb]
theorem ar_lr_in {ln : Nat} {P : Nat → Prop} {cb : Nat → Nat → Prop} {B : Nat → Nat} : ∀ m, ar_lr ln P cb B m = ln ∨ (ar_lr ln P cb B m < m ∧ P (ar_lr ln P cb B m))
  | 0 => Or.inl rfl
  | m + 1 => by
    by_cases hc : P m ∧ (ar_lr ln P cb B m = ln ∨ cb (B m) (B (ar_lr ln P cb B m)))
    · rw [ar_lr, if_pos hc]; exact Or.inr ⟨by omega, hc.1⟩
    · rw [ar_lr, if_neg hc]
      exact (ar_lr_in m).imp id (fun z => ⟨by omega, z.2⟩)
end CG
section BR
variable {h' : zz_H} {a krk ln : Nat} {σ : Nat → Nat} {LB : List Nat} {Q : Nat → Prop} {I cb : Nat → Nat → Prop}
/-- the loop over roots, in slots -/
theorem br_lr (hln : or_s h' a = LB.length) (hob : or_b h' a ≠ or_n h' a) (hB : ∀ i e, LB[i]? = some e → zz_aR h' (or_b h' a) i = some (σ e)) (hQ : ∀ e ∈ LB, (zz_fR h' 2 1 (σ e) = some krk ↔ Q e)) (hcb : ∀ e ∈ LB, ∀ e' ∈ LB, Q e → Q e' → (sg_cb h' (σ e) (σ e') ↔ cb e e')) {xx : Nat → Nat → Option Nat} (hx : ∀ b, b ≠ or_n h' a → xx b = zz_aR h' b) {pv : Option Nat} (hpv : ∀ q, pv = some q → q ∈ LB ∧ Q q) : ∀ m, m ≤ LB.length → or_lr (or_rp h' xx) a krk (pv.map σ) m = ar_lr LB.length (ar_P Q cb (fun i => LB.getD i 0) pv) cb (fun i => LB.getD i 0) m
  | 0, _ => hln
  | m + 1, hm => by
    have ih := br_lr hln hob hB hQ hcb hx hpv m (by omega)
    have oB : ∀ i, i < LB.length → ∃ e, LB[i]? = some e ∧ e ∈ LB ∧ LB.getD i 0 = e ∧ or_B (or_rp h' xx) a i = σ e := fun i hi => by
      have h1 : LB[i]? = some LB[i] := List.getElem?_eq_getElem hi
      refine ⟨_, h1, List.mem_of_getElem? h1, getD_at h1, ?_⟩
      show (xx (or_b h' a) i).getD 0 = _
      rw [hx _ hob, hB i _ h1]; rfl
    obtain ⟨e, e1, e2, e3, e4⟩ := oB m (by omega)
    have hP : or_lP (or_rp h' xx) a krk (pv.map σ) m ↔ ar_P Q cb (fun i => LB.getD i 0) pv m := by
      unfold or_lP ar_P
      rw [e4]
      show (zz_fR h' 2 1 (σ e) = some krk ∧ ∀ q, pv.map σ = some q → sg_cb h' q (σ e)) ↔ (Q (LB.getD m 0) ∧ ∀ q, pv = some q → cb q (LB.getD m 0))
      rw [e3, hQ e e2]
      constructor
      · rintro ⟨z1, z2⟩
        refine ⟨z1, fun q hq => ?_⟩
        obtain ⟨q1, q2⟩ := hpv q hq
        exact (hcb q q1 e e2 q2 z1).mp (z2 (σ q) (by rw [hq]; rfl))
      · rintro ⟨z1, z2⟩
        refine ⟨z1, fun q hq => ?_⟩
        cases pv with
        | none => cases hq
        | some q' =>
          cases hq
          obtain ⟨q1, q2⟩ := hpv q' rfl
          exact (hcb q' q1 e e2 q2 z1).mpr (z2 q' rfl)
    have hc : (or_lP (or_rp h' xx) a krk (pv.map σ) m ∧ (or_lr (or_rp h' xx) a krk (pv.map σ) m = or_s (or_rp h' xx) a ∨ sg_cb (or_rp h' xx) (or_B (or_rp h' xx) a m) (or_B (or_rp h' xx) a (or_lr (or_rp h' xx) a krk (pv.map σ) m)))) ↔ (ar_P Q cb (fun i => LB.getD i 0) pv m ∧ (ar_lr LB.length (ar_P Q cb (fun i => LB.getD i 0) pv) cb (fun i => LB.getD i 0) m = LB.length ∨ cb (LB.getD m 0) (LB.getD (ar_lr LB.length (ar_P Q cb (fun i => LB.getD i 0) pv) cb (fun i => LB.getD i 0) m) 0))) := by
      rw [hP, ih, show or_s (or_rp h' xx) a = LB.length from hln, e4, e3]
      refine and_congr_right (fun z => ?_)
      have zq : Q e := by have := z.1; simp only [e3] at this; exact this
      rcases ar_lr_in (ln := LB.length) (P := ar_P Q cb (fun i => LB.getD i 0) pv) (cb := cb) (B := fun i => LB.getD i 0) m with hL | ⟨hL, hPL⟩
      · exact ⟨fun _ => Or.inl hL, fun _ => Or.inl hL⟩
      · obtain ⟨e', f1, f2, f3, f4⟩ := oB _ (Nat.lt_of_lt_of_le hL (by omega))
        have zq' : Q e' := by have := hPL.1; simp only [f3] at this; exact this
        rw [f4, f3]
        have := hcb e e2 e' f2 zq zq'
        constructor
        · rintro (w | w)
          · exact Or.inl w
          · exact Or.inr (this.mp w)
        · rintro (w | w)
          · exact Or.inl w
          · exact Or.inr (this.mpr w)
    rw [or_lr, ar_lr]
    by_cases hd : ar_P Q cb (fun i => LB.getD i 0) pv m ∧ (ar_lr LB.length (ar_P Q cb (fun i => LB.getD i 0) pv) cb (fun i => LB.getD i 0) m = LB.length ∨ cb (LB.getD m 0) (LB.getD (ar_lr LB.length (ar_P Q cb (fun i => LB.getD i 0) pv) cb (fun i => LB.getD i 0) m) 0))
    · rw [if_pos (hc.mpr hd), if_pos hd]
    · rw [if_neg (fun z => hd (hc.mp z)), if_neg hd]; exact ih
theorem br_AR (hln : or_s h' a = LB.length) (hob : or_b h' a ≠ or_n h' a) (hB : ∀ i e, LB[i]? = some e → zz_aR h' (or_b h' a) i = some (σ e)) (hQ : ∀ e ∈ LB, (zz_fR h' 2 1 (σ e) = some krk ↔ Q e)) (hcb : ∀ e ∈ LB, ∀ e' ∈ LB, Q e → Q e' → (sg_cb h' (σ e) (σ e') ↔ cb e e')) (hI : ∀ e ∈ LB, ∀ e' ∈ LB, (sg_at h' (sg_lv h' (σ e)) (σ e') = some (σ e) ↔ I e e')) : ∀ n to root xx N h2, (∀ b, b ≠ or_n h' a → xx b = zz_aR h' b) → (∀ j, j < LB.length → xx (or_n h' a) j = some (σ (N j))) → (root < LB.length → Q (LB.getD root 0)) → or_AR a krk n to root (or_rp h' xx) h2 → ∃ N' x2, h2 = or_rp h' x2 ∧ (∀ b, b ≠ or_n h' a → x2 b = zz_aR h' b) ∧ (∀ j, j < LB.length → x2 (or_n h' a) j = some (σ (N' j))) ∧ ar_AR LB.length I Q cb (fun i => LB.getD i 0) n to root N N'
  | 0, to, root, xx, N, h2, hx, hN, hr, hA => ⟨N, xx, hA, hx, hN, rfl⟩
  | n + 1, to, root, xx, N, h2, hx, hN, hr, hA => by
    have es : or_s (or_rp h' xx) a = LB.length := hln
    have oB : ∀ i, i < LB.length → ∃ e, LB[i]? = some e ∧ e ∈ LB ∧ LB.getD i 0 = e ∧ or_B (or_rp h' xx) a i = σ e := fun i hi => by
      have h1 : LB[i]? = some LB[i] := List.getElem?_eq_getElem hi
      refine ⟨_, h1, List.mem_of_getElem? h1, getD_at h1, ?_⟩
      show (xx (or_b h' a) i).getD 0 = _
      rw [hx _ hob, hB i _ h1]; rfl
    rcases hA with ⟨z1, z2⟩ | ⟨z1, m, hct, hA⟩
    · exact ⟨N, xx, z2, hx, hN, Or.inl ⟨by rw [es] at z1; exact z1, rfl⟩⟩
    · rw [es] at z1
      obtain ⟨e, e1, e2, e3, e4⟩ := oB root z1
      obtain ⟨t1, t2, t3, t4⟩ := hct
      rw [es] at t1 t2 t4
      have hin : ∀ i, i < LB.length → (or_in (or_rp h' xx) a (or_B (or_rp h' xx) a root) i ↔ I e (LB.getD i 0)) := fun i hi => by
        obtain ⟨e', f1, f2, f3, f4⟩ := oB i hi
        unfold or_in
        rw [e4, f4, f3]
        exact hI e e2 e' f2
      have hct' : ar_ct LB.length I (fun i => LB.getD i 0) root to m := ⟨t1, t2, fun j hj => by
        have := (hin (root + j) (by omega)).mp (t3 j hj)
        show I (LB.getD root 0) _
        rw [e3]; exact this, fun q1 q2 z => t4 q1 q2 ((hin (root + m) q1).mpr (by
          have z : I (LB.getD root 0) (LB.getD (root + m) 0) := z
          rw [e3] at z; exact z))⟩
      -- the order there is now, behind the copy
      let x' : Nat → Nat → Option Nat := fun b j => if b = or_n h' a ∧ to ≤ j ∧ j < to + m then xx (or_b h' a) (root + (j - to)) else xx b j
      have hx' : ∀ b, b ≠ or_n h' a → x' b = zz_aR h' b := fun b hb => by
        rw [← hx b hb]
        funext j
        exact if_neg (fun z => hb z.1)
      have hN' : ∀ j, j < LB.length → x' (or_n h' a) j = some (σ (ar_cp (fun i => LB.getD i 0) N root to m j)) := fun j hj => by
        show (if or_n h' a = or_n h' a ∧ to ≤ j ∧ j < to + m then xx (or_b h' a) (root + (j - to)) else xx (or_n h' a) j) = _
        unfold ar_cp
        by_cases hc : to ≤ j ∧ j < to + m
        · rw [if_pos ⟨rfl, hc⟩, if_pos hc, hx _ hob]
          have h1 : LB[root + (j - to)]? = some LB[root + (j - to)] := List.getElem?_eq_getElem (by omega)
          rw [hB _ _ h1]
          show _ = some (σ (LB.getD (root + (j - to)) 0))
          rw [getD_at h1]
        · rw [if_neg (fun z => hc z.2), if_neg hc]; exact hN j hj
      have ecp : or_cp (or_rp h' xx) a root to m = or_rp h' x' := rfl
      rw [ecp, e4, es] at hA
      have hlr := br_lr hln hob hB hQ hcb hx' (pv := some e) (fun q hq => by cases hq; exact ⟨e2, by have := hr z1; rw [e3] at this; exact this⟩) LB.length (Nat.le_refl _)
      have hlr : or_lr (or_rp h' x') a krk (some (σ e)) LB.length = _ := hlr
      rw [hlr] at hA
      have hr' : ar_lr LB.length (ar_P Q cb (fun i => LB.getD i 0) (some e)) cb (fun i => LB.getD i 0) LB.length < LB.length → Q (LB.getD (ar_lr LB.length (ar_P Q cb (fun i => LB.getD i 0) (some e)) cb (fun i => LB.getD i 0) LB.length) 0) := fun hlt => by
        rcases ar_lr_in (ln := LB.length) (P := ar_P Q cb (fun i => LB.getD i 0) (some e)) (cb := cb) (B := fun i => LB.getD i 0) LB.length with z | z
        · omega
        · exact z.2.1
      obtain ⟨N', x2, r1, r2, r3, r4⟩ := br_AR hln hob hB hQ hcb hI n (to + m) _ x' _ h2 hx' hN' hr' hA
      refine ⟨N', x2, r1, r2, r3, Or.inr ⟨z1, m, hct', ?_⟩⟩
      show ar_AR LB.length I Q cb (fun i => LB.getD i 0) n (to + m) (ar_lr LB.length (ar_P Q cb (fun i => LB.getD i 0) (some (LB.getD root 0))) cb (fun i => LB.getD i 0) LB.length) _ N'
      rw [e3]; exact r4
end BR
section CR
variable {h h2 : zz_H} {x m27 n : Nat} {A : aA} {f : aF} {σ κ : Nat → Nat} {LB LN : List Nat} {sw t2 : Nat}
theorem PV_uniq {v v' : Nat → Int64} (h1 : PV A f sw v) (h2 : PV A f sw v') : ∀ y, y < 60 → v y = v' y := fun y hy => by
  obtain ⟨a1, a2, a3⟩ := h1 y hy
  obtain ⟨b1, b2, b3⟩ := h2 y hy
  by_cases hc : ∃ s, s < 60 ∧ aOf A f s y
  · obtain ⟨s, q1, q2, q3⟩ := a3 hc
    obtain ⟨s', q4, q5, q6⟩ := b3 hc
    have z1 := b2 s q1 q2
    have z2 := a2 s' q4 q5
    rw [← q3] at z1
    rw [← q6] at z2
    exact Int64.le_antisymm z2 z1
  · rw [a1 (fun s hs w => hc ⟨s, hs, w⟩), b1 (fun s hs w => hc ⟨s, hs, w⟩)]
set_option maxHeartbeats 4000000 in
theorem CB_arr (hM : aM A f n sw t2) (hB : CB h x m27 A f σ κ LB) (harr : or_arr h (t_od h x) h2) : or_fr h h2 (or_n h (t_od h x)) ∧ ∃ LN, CA h2 x m27 A f σ κ LB LN sw t2 := by
  have hB0 := hB
  obtain ⟨c1, c2, c3, c4, c5, c6, c7, c8, c9⟩ := hB
  obtain ⟨m1, m2, m3, m4, m5, m6, m7, m8, m9, m10, m11, m12, m13, m14⟩ := hM
  obtain ⟨r1, r2, r3, r4, r5⟩ := c9
  have hw := aWl_fo m1
  have hnd : LB.Nodup := pw_nodup (fun a => fo_R_irr a) c7.2.2.2
  have l60 : LB.length ≤ 60 := by
    rw [mCnt_len (G := aLive A) 60 LB hnd (fun s => by rw [c7.2.2.1 s]; exact ⟨fun z => ⟨z.1, z⟩, fun z => z.2⟩)]
    exact mCnt_le _ _
  have hsz : or_s h (t_od h x) = LB.length := by rw [or_s, c7.1]; exact nI_clamp (by omega)
  have hob := c1.2.2.2.2.2.2.2
  have lB : ∀ e ∈ LB, aLive A e := fun e he => (c7.2.2.1 e).mp he
  have cyo : zz_aR (or_cy h (t_od h x)) (or_b h (t_od h x)) = zz_aR h (or_b h (t_od h x)) := by
    funext j
    exact if_neg hob
  have cyn : ∀ i e, LB[i]? = some e → zz_aR (or_cy h (t_od h x)) (or_n h (t_od h x)) i = some (σ e) := fun i e he => by
    show (if or_n h (t_od h x) = or_n h (t_od h x) then (if i < or_s h (t_od h x) then zz_aR h (or_b h (t_od h x)) i else zz_aR h (or_n h (t_od h x)) i) else _) = _
    rw [if_pos rfl, if_pos (by rw [hsz]; exact (List.getElem?_eq_some_iff.mp he).1)]
    exact c7.2.1 i e he
  rcases harr with ⟨hoff, rfl⟩ | ⟨hon, k, sw', y, to, hk, hsw, hsw2, hvl, hto, hAR⟩
  · have hfr : or_fr h (or_cy h (t_od h x)) (or_n h (t_od h x)) := ⟨rfl, rfl, rfl, rfl, fun b hb => by funext j; exact if_neg hb, fun _ _ _ _ => rfl, fun _ => Or.inr (Or.inr rfl)⟩
    refine ⟨hfr, LB, CB_CA (CB_fr hB0 hfr) rfl cyn c7.2.2.1 (fun v _ => ?_)⟩
    have h0 : f 11 = 0 := by
      rcases hoff with z | z
      · rw [← r4]; exact z
      · rw [r2] at z
        rcases m8.2.2 with ⟨-, q⟩ | ⟨q1, -, q3, -⟩
        · exact q
        · exact absurd (oS_none z) (by rw [q3]; exact nI_neg (by omega))
    rw [s1_off h0]; exact c7.2.2.2
  · have h11 : f 11 ≠ 0 := by rw [← r4]; exact hon
    obtain ⟨t8, dt, q9, q10, l2, l24, q4, q5⟩ := m8.2.2.resolve_left (fun z => h11 z.2)
    have ek : k = κ t2 := by
      rw [r2, oS_s (by omega) q9] at hk
      exact (Option.some.inj hk).symm
    have esw : sw' = sw := by
      rw [r3 (by rw [q9]; exact nI_neg (by omega)), q10] at hsw2
      exact (nI_eqI9 (by have := m8.1; omega) (by omega) hsw2).symm
    subst ek; subst esw
    obtain ⟨rk1, rk8, drk⟩ := c_root c3 m2 3 t2 t8 dt
    have t4 := (m2 t2 t8 dt).2.2.1
    obtain ⟨rk2, rk3⟩ := aRt_root m2 3 t2 t8 dt (by omega)
    -- the heap with the values
    have hfr : or_fr h (or_ry (or_cy h (t_od h x)) y) (or_n h (t_od h x)) := ⟨rfl, rfl, rfl, rfl, fun b hb => by funext j; exact if_neg hb, fun c j b hn => hvl.1.1 c j b hn, fun b => hvl.1.2 b⟩
    have hB1 := CB_fr hB0 hfr
    have hsz1 : or_s (or_ry (or_cy h (t_od h x)) y) (t_od h x) = LB.length := by
      have : zz_fI (or_ry (or_cy h (t_od h x)) y) 5 2 (t_od h x) = nI LB.length := hB1.2.2.2.2.2.2.1.1
      rw [or_s, this]; exact nI_clamp (by omega)
    have oBc : ∀ i e, LB[i]? = some e → or_B (or_cy h (t_od h x)) (t_od h x) i = σ e := fun i e he => by
      show (zz_aR (or_cy h (t_od h x)) (or_b h (t_od h x)) i).getD 0 = _
      rw [cyo, c7.2.1 i e he]; rfl
    have hof : ∀ i e e', LB[i]? = some e → aLive A e' → (or_of (or_cy h (t_od h x)) (t_od h x) i (σ e') ↔ aOf A f e e') := fun i e e' he le' => by
      have le := lB e (List.mem_of_getElem? he)
      unfold or_of aOf
      rw [oBc i e he]
      show (zz_fR h 2 1 (σ e) = zz_fR h 5 3 (t_od h x) ∧ sg_at h 1 (σ e) = some (σ e')) ↔ _
      have a1 : sg_at h 1 (σ e) = some (σ (aRo A e)) := by
        have := c_at c3 c4 m1 m3 (l := 1) (by omega) (by omega) le
        rw [if_pos (m1 e le).2.2.2.1] at this; exact this
      have a2 : aLive A (aRo A e) := (fo_ro_lv hw le).1
      rw [a1, (c4.2.2 e le).2.2.1, hk]
      obtain ⟨k15, k8, -⟩ := m1 e le
      constructor
      · rintro ⟨z1, z2⟩
        refine ⟨le, ?_, c_σinj c4 m5 a2 le' (Option.some.inj z2)⟩
        rw [k15, c_κinj c3 k8 t8 (m3 e le) dt (Option.some.inj z1), q9]
      · rintro ⟨-, z1, z2⟩
        rw [q9, k15] at z1
        rw [nI_eqI9 (by omega) (by omega) z1, z2]; exact ⟨rfl, rfl⟩
    have how : ∀ i e, LB[i]? = some e → A 15 e = f 9 → or_ow (or_cy h (t_od h x)) (t_od h x) sw' i = A 18 (4 * e + sw') := fun i e he hke => by
      have le := lB e (List.mem_of_getElem? he)
      unfold or_ow
      rw [oBc i e he]
      have ek : aK A e = t2 := by rw [aK, hke, q9]; exact nI_clamp (by omega)
      exact (c4.2.2 e le).2.2.2.2.2 sw' (by omega) (by rw [ek, q4]; exact nI_lt q5 (by omega))
    have idx : ∀ e, aLive A e → ∃ i, i < LB.length ∧ LB[i]? = some e := fun e le => by
      obtain ⟨i, hi⟩ := List.getElem?_of_mem ((c7.2.2.1 e).mpr le)
      exact ⟨i, (List.getElem?_eq_some_iff.mp hi).1, hi⟩
    have szc : or_s (or_cy h (t_od h x)) (t_od h x) = LB.length := hsz
    rw [hsz] at hvl hAR
    have val : ∀ e, aLive A e → ((∀ s, aLive A s → ¬ aOf A f s e) → y 2 5 (σ e) = 0) ∧ (∀ s, aOf A f s e → y 2 5 (σ e) = 1 ∧ y 2 6 (σ e) ≤ A 18 (4 * s + sw')) ∧ (y 2 5 (σ e) = 1 → ∃ s, aOf A f s e ∧ y 2 6 (σ e) = A 18 (4 * s + sw')) := fun e le => by
      obtain ⟨i, il, hi⟩ := idx e le
      have hq := hvl.2 i (by rw [szc]; exact il)
      rw [oBc i e hi] at hq
      obtain ⟨h1, h2, h3⟩ := hq
      refine ⟨fun z => h1 (fun j hj w => ?_), fun s hs => ?_, fun z => ?_⟩
      · have hj9 : LB[j]? = some LB[j] := List.getElem?_eq_getElem hj
        exact z _ (lB _ (List.mem_of_getElem? hj9)) ((hof j _ e hj9 le).mp w)
      · obtain ⟨j, jl, hj⟩ := idx s hs.1
        obtain ⟨w1, w2⟩ := h2 j jl ((hof j s e hj le).mpr hs)
        rw [how j s hj hs.2.1] at w2
        exact ⟨w1, w2⟩
      · obtain ⟨j, jl, w1, w2⟩ := h3 z
        have hj9 : LB[j]? = some LB[j] := List.getElem?_eq_getElem jl
        have w3 := (hof j _ e hj9 le).mp w1
        exact ⟨_, w3, by rw [w2, how j _ hj9 w3.2.1]⟩
    -- the values as the reference has them
    let v0 : Nat → Int64 := fun e => @ite _ (aLive A e ∧ y 2 5 (σ e) = 1) (Classical.propDecidable _) (y 2 6 (σ e)).toInt64 mB40
    have v1 : ∀ e, aLive A e → y 2 5 (σ e) = 1 → v0 e = (y 2 6 (σ e)).toInt64 := fun e l1 l2 => if_pos ⟨l1, l2⟩
    have v2 : ∀ e, ¬ (aLive A e ∧ y 2 5 (σ e) = 1) → v0 e = mB40 := fun e l1 => if_neg l1
    have hPV : PV A f sw' v0 := fun e e60 => by
      refine ⟨fun z => v2 e (fun ⟨le, w⟩ => ?_), fun s s60 hs => ?_, fun ⟨s, s60, hs⟩ => ?_⟩
      · obtain ⟨s, w1, -⟩ := (val e le).2.2 w
        exact z s w1.1.1 w1
      · have le : aLive A e := by rw [← hs.2.2]; exact (fo_ro_lv hw hs.1).1
        obtain ⟨w1, w2⟩ := (val e le).2.1 s hs
        rw [v1 e le w1]; exact i64_le w2
      · have le : aLive A e := by rw [← hs.2.2]; exact (fo_ro_lv hw hs.1).1
        obtain ⟨w1, -⟩ := (val e le).2.1 s hs
        obtain ⟨s', w3, w4⟩ := (val e le).2.2 w1
        exact ⟨s', w3.1.1, w3, by rw [v1 e le w1, w4]; rfl⟩
    have y01 : ∀ e, aLive A e → y 2 5 (σ e) = 0 ∨ y 2 5 (σ e) = 1 := fun e le => by
      by_cases hc : ∃ s, aOf A f s e
      · obtain ⟨s, hs⟩ := hc; exact Or.inr ((val e le).2.1 s hs).1
      · exact Or.inl ((val e le).1 (fun s _ w => hc ⟨s, w⟩))
    have hvOK : ∀ e, aLive A e → vOK (y 2 5 (σ e)) (y 2 6 (σ e)) (v0 e) := fun e le => by
      rcases y01 e le with z | z
      · exact Or.inl ⟨z, v2 e (fun w => absurd (z.symm.trans w.2) (by decide))⟩
      · exact Or.inr ⟨z, v1 e le z⟩
    have hQroot : ∀ e, aLive A e → aRk A t2 e → A 16 e = -1 ∧ aP A e = none := fun e le hq => by
      obtain ⟨k15, k8, -, -, -, g⟩ := m1 e le
      have ek : aK A e = aRt A 3 t2 := by rw [aK, hq]; exact nI_clamp (by omega)
      have elv : aLv A e = 1 := by rw [aLv, ek]; exact rk3
      rcases g with ⟨g1, -⟩ | ⟨p, g1, -, g3⟩
      · exact ⟨g1, aP_none g1⟩
      · have := (m1 p g1).2.2.2.1; omega
    have hcb : ∀ e ∈ LB, ∀ e' ∈ LB, aRk A t2 e → aRk A t2 e' → (sg_cb (or_ry (or_cy h (t_od h x)) y) (σ e) (σ e') ↔ s1 A f t2 v0 e e') := fun e he e' he' hq hq' => by
      have le := lB e he
      have le' := lB e' he'
      have n0 : y 2 0 (σ e) = A 14 e := (hvl.1.1 2 0 _ (fun z => by omega)).trans (c4.2.2 e le).2.1
      have n0' : y 2 0 (σ e') = A 14 e' := (hvl.1.1 2 0 _ (fun z => by omega)).trans (c4.2.2 e' le').2.1
      have key := cb_s1 (na := A 14 e) (nb := A 14 e') (hvOK e le) (hvOK e' le')
      show ((y 2 5 (σ e) ≠ y 2 5 (σ e') ∧ y 2 5 (σ e) = 1) ∨ (y 2 5 (σ e) = y 2 5 (σ e') ∧ ((y 2 5 (σ e) ≠ 0 ∧ y 2 6 (σ e) ≠ y 2 6 (σ e') ∧ y 2 6 (σ e) < y 2 6 (σ e')) ∨ ((y 2 5 (σ e) = 0 ∨ y 2 6 (σ e) = y 2 6 (σ e')) ∧ y 2 0 (σ e) < y 2 0 (σ e'))))) ↔ _
      rw [n0, n0', key]
      have hsec : aSec A f t2 e := ⟨(hQroot e le hq).1, h11, hq⟩
      constructor
      · intro z; exact Or.inr ⟨hq.trans hq'.symm, Or.inl ⟨hsec, z⟩⟩
      · rintro (⟨z, -⟩ | ⟨-, ⟨-, z⟩ | ⟨z, -⟩⟩)
        · exact absurd (hq.trans hq'.symm) z
        · exact z
        · exact absurd hsec z
    have hQ9 : ∀ e ∈ LB, (zz_fR (or_ry (or_cy h (t_od h x)) y) 2 1 (σ e) = some (kd_root h 3 (κ t2)) ↔ aRk A t2 e) := fun e he => by
      have le := lB e he
      obtain ⟨k15, k8, -⟩ := m1 e le
      show zz_fR h 2 1 (σ e) = _ ↔ _
      rw [(c4.2.2 e le).2.2.1, rk1]
      unfold aRk
      constructor
      · intro z; rw [k15, c_κinj c3 k8 rk8 (m3 e le) drk (Option.some.inj z)]
      · intro z
        rw [k15] at z
        rw [nI_eqI9 (by omega) (by omega) z]
    have hI9 : ∀ e ∈ LB, ∀ e' ∈ LB, (sg_at (or_ry (or_cy h (t_od h x)) y) (sg_lv (or_ry (or_cy h (t_od h x)) y) (σ e)) (σ e') = some (σ e) ↔ fo_in (aP A) e e') := fun e he e' he' => c_in hB1.2.2.1 hB1.2.2.2.1 m1 m3 m5 (lB e he) (lB e' he')
    have hBB : ∀ i e, LB[i]? = some e → zz_aR (or_ry (or_cy h (t_od h x)) y) (or_b (or_ry (or_cy h (t_od h x)) y) (t_od h x)) i = some (σ e) := hB1.2.2.2.2.2.2.1.2.1
    have hob1 : or_b (or_ry (or_cy h (t_od h x)) y) (t_od h x) ≠ or_n (or_ry (or_cy h (t_od h x)) y) (t_od h x) := hob
    have hrp : or_ry (or_cy h (t_od h x)) y = or_rp (or_ry (or_cy h (t_od h x)) y) (zz_aR (or_ry (or_cy h (t_od h x)) y)) := rfl
    have hlr0 := br_lr (σ := σ) (LB := LB) (Q := aRk A t2) (cb := s1 A f t2 v0) (krk := kd_root h 3 (κ t2)) hsz1 hob1 hBB hQ9 hcb (xx := zz_aR (or_ry (or_cy h (t_od h x)) y)) (fun _ _ => rfl) (pv := none) (fun q hq => by cases hq) LB.length (Nat.le_refl _)
    have hlr0 : or_lr (or_ry (or_cy h (t_od h x)) y) (t_od h x) (kd_root h 3 (κ t2)) none LB.length = _ := hlr0
    rw [hlr0] at hAR
    have in0 := ar_lr_in (ln := LB.length) (P := ar_P (aRk A t2) (s1 A f t2 v0) (fun i => LB.getD i 0) none) (cb := s1 A f t2 v0) (B := fun i => LB.getD i 0) LB.length
    obtain ⟨N', x2, e1, e2, e3, e4⟩ := br_AR (σ := σ) (LB := LB) (Q := aRk A t2) (cb := s1 A f t2 v0) (I := fo_in (aP A)) (krk := kd_root h 3 (κ t2)) hsz1 hob1 hBB hQ9 hcb hI9 LB.length to _ (zz_aR (or_ry (or_cy h (t_od h x)) y)) (fun j => LB.getD j 0) h2 (fun _ _ => rfl) (fun j hj => by
      have hj9 : LB[j]? = some LB[j] := List.getElem?_eq_getElem hj
      show zz_aR (or_cy h (t_od h x)) (or_n h (t_od h x)) j = some (σ (LB.getD j 0))
      rw [cyn j _ hj9, getD_at hj9]) (fun hlt => by
      rcases in0 with z | z
      · omega
      · exact z.2.1) hAR
    obtain ⟨to1, to2, to3⟩ := hto
    rw [hsz1] at to1 to3
    have hkr : ∀ i e, LB[i]? = some e → (kd_root (or_ry (or_cy h (t_od h x)) y) 3 (sg_k (or_ry (or_cy h (t_od h x)) y) (or_B (or_ry (or_cy h (t_od h x)) y) (t_od h x) i)) = kd_root h 3 (κ t2) ↔ aRk A t2 (aRo A e)) := fun i e he => by
      have le := lB e (List.mem_of_getElem? he)
      have l4 := (m1 e le).2.2.2.2.1
      obtain ⟨-, k8, -⟩ := m1 e le
      have b1 : or_B (or_ry (or_cy h (t_od h x)) y) (t_od h x) i = σ e := oBc i e he
      rw [b1]
      show kd_root h 3 (sg_k h (σ e)) = _ ↔ _
      obtain ⟨s1', s2', s3'⟩ := c_root c3 m2 3 (aK A e) k8 (m3 e le)
      have lr := (fo_ro_lv hw le).1
      rw [c_sgk c4 le, s1', rk1]
      have er := aRt_seg m1 m2 m3 m14 3 e le (by omega)
      unfold aRk
      rw [(m1 (aRo A e) lr).1, ← er]
      constructor
      · intro z; rw [c_κinj c3 s2' rk8 s3' drk z]
      · intro z; rw [nI_eqI9 (by omega) (by omega) z]
    have okk := ar_lr_ok (ln := LB.length) (P := ar_P (aRk A t2) (s1 A f t2 v0) (fun i => LB.getD i 0) none) (cb := s1 A f t2 v0) (B := fun i => LB.getD i 0)
    have hB9 : ∀ i, i < LB.length → ∃ e, LB[i]? = some e ∧ LB.getD i 0 = e ∧ aLive A e := fun i hi => by
      have h1 : LB[i]? = some LB[i] := List.getElem?_eq_getElem hi
      exact ⟨_, h1, getD_at h1, lB _ (List.mem_of_getElem? h1)⟩
    have hsb1 := s1_sb (f := f) (t2 := t2) (v := v0) m5
    have ok := okk (fun i j hi hj hP hP' hne => by
      obtain ⟨a, a1, a2, a3⟩ := hB9 i hi
      obtain ⟨b, b1, b2, b3⟩ := hB9 j hj
      have qa := hP.1
      have qb := hP'.1
      simp only [a2, b2] at qa qb ⊢
      exact hsb1.2.1 a b a3 b3 ((hQroot a a3 qa).2.trans (hQroot b b3 qb).2.symm) (fun z => hne (nd_idx hnd a1 (z ▸ b1)))) (fun i j k hi hj hk hP hP' hP'' => by
      obtain ⟨a, a1, a2, a3⟩ := hB9 i hi
      obtain ⟨b, b1, b2, b3⟩ := hB9 j hj
      obtain ⟨d, d1, d2, d3⟩ := hB9 k hk
      have qa := hP.1
      have qb := hP'.1
      have qd := hP''.1
      simp only [a2, b2, d2] at qa qb qd ⊢
      exact hsb1.2.2 a b d a3 b3 d3 ((hQroot a a3 qa).2.trans (hQroot b b3 qb).2.symm) ((hQroot b b3 qb).2.trans (hQroot d d3 qd).2.symm)) LB.length (Nat.le_refl _)
    obtain ⟨LN, n1, n2, n3, n4⟩ := ar_ok (Q := aRk A t2) (I := fo_in (aP A)) (cb := s1 A f t2 v0) (p := to) (s01_two (A := A) (f := f) (t2 := t2) (v := v0)) hw (s0_sb m5) hsb1 (fun e le hq => (hQroot e le hq).2) c7.2.2.1 c7.2.2.2 (fun j e hj hjt z => to2 j hjt ((hkr j e hj).mpr z)) (fun e he => (hkr to e he).mp (to3 (List.getElem?_eq_some_iff.mp he).1)) to1 (fun _ _ _ _ => Iff.rfl) (fun _ _ _ _ _ _ => Iff.rfl) LB.length [] to _ (fun j => LB.getD j 0) N' List.Pairwise.nil (fun q hq => by cases hq) (fun q hq => by cases hq) rfl (fun j hj => by
      rw [List.flatMap_nil, List.append_nil, List.getElem?_take_of_lt hj]
      have hj9 : LB[j]? = some LB[j] := List.getElem?_eq_getElem (by omega)
      show _ = some (LB.getD j 0)
      rw [getD_at hj9]; exact hj9) (fun j _ hj => by
      have hj9 : LB[j]? = some LB[j] := List.getElem?_eq_getElem hj
      show _ = some (LB.getD j 0)
      rw [getD_at hj9]; exact hj9) (by
      have hP9 : ∀ (i e : Nat), LB[i]? = some e → (ar_P (aRk A t2) (s1 A f t2 v0) (fun i => LB.getD i 0) none i ↔ aRk A t2 e) := fun i e he => by
        unfold ar_P
        simp only [getD_at he]
        exact ⟨fun z => z.1, fun z => ⟨z, fun q hq => by cases hq⟩⟩
      rcases ok with ⟨o1, o2⟩ | ⟨o1, o2, o3⟩
      · refine Or.inl ⟨o1, fun q lq hq => ?_⟩
        obtain ⟨i, il, hi⟩ := idx q lq
        exact absurd ((hP9 i q hi).mpr hq) (o2 i il)
      · obtain ⟨e, f1, -, f3⟩ := hB9 _ o1
        refine Or.inr ⟨e, f1, (hP9 _ e f1).mp o2, fun z => (by cases z), fun q lq hq _ hne => ?_⟩
        obtain ⟨i, il, hi⟩ := idx q lq
        have := o3 i il ((hP9 i q hi).mpr hq) (fun z => hne (by rw [z, f1] at hi; exact (Option.some.inj hi).symm))
        simp only [getD_at f1, getD_at hi] at this
        exact this) (by simp) e4
    have hfr2 : or_fr h h2 (or_n h (t_od h x)) := by
      rw [e1]
      refine ⟨rfl, rfl, rfl, rfl, fun b hb => ?_, hfr.2.2.2.2.2.1, hfr.2.2.2.2.2.2⟩
      have : x2 b = zz_aR (or_ry (or_cy h (t_od h x)) y) b := e2 b hb
      exact this.trans (hfr.2.2.2.2.1 b hb)
    refine ⟨hfr2, LN, CB_CA (CB_fr hB0 hfr2) n3 (fun i e he => ?_) n2 (fun v hv => ?_)⟩
    · have il : i < LB.length := by rw [← n3]; exact (List.getElem?_eq_some_iff.mp he).1
      have h9 := n4 i il
      rw [he] at h9
      rw [e1]
      show x2 (or_n h (t_od h x)) i = some (σ e)
      have := e3 i il
      rw [← Option.some.inj h9] at this
      exact this
    · refine List.Pairwise.imp_of_mem (fun {a b} ha hb hab => ?_) n1
      refine (fo_R_congr hw (fun a b la lb => ?_) ((n2 a).mp ha) ((n2 b).mp hb)).mp hab
      unfold s1
      rw [PV_uniq hPV hv a la.1, PV_uniq hPV hv b lb.1]
end CR
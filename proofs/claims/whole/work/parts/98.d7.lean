/-! a new segment enters the list -/
theorem fo_leaf {live : Nat → Prop} {par : Nat → Option Nat} {lv : Nat → Nat} (hw : fo_wf live par lv) {s : Nat} (ls : live s) (hp : ∀ e, live e → par e ≠ some s) : ∀ e, live e → e ≠ s → ¬ fo_in par s e := by
  have l1 := (hw s ls).2.1
  apply fo_ind hw (P := fun e => e ≠ s → ¬ fo_in par s e)
  · intro e le h0 h1 hne z
    obtain ⟨q1, q2⟩ := (fo_in_at hw ls le).mp z
    rw [fo_at_hi (by omega)] at q2
    exact hne q2
  · intro e p le h1 lp h2 ih hne z
    obtain ⟨q1, q2⟩ := (fo_in_at hw ls le).mp z
    by_cases hl : lv e ≤ lv s
    · rw [fo_at_hi hl] at q2; exact hne q2
    · rw [fo_at_par hw le h1 lp l1 (by omega) h2] at q2
      exact ih (fun e' => hp e le (by rw [h1, e'])) ((fo_in_at hw ls lp).mpr ⟨by omega, q2⟩)
section FB
variable {h h2 : zz_H} {x m27 n s : Nat} {A : aA} {f : aF} {σ κ : Nat → Nat} {LB LN : List Nat} {sw t2 : Nat}
/-- another list by sequence: all else is as it was -/
theorem CN_fb (hB : CN h x m27 A f σ κ) (e1 : h2.1 = h.1) (e3 : h2.2.2.1 = h.2.2.1) (e4 : h2.2.2.2.1 = h.2.2.2.1) (er : ∀ b, b ≠ or_b h (t_od h x) → zz_aR h2 b = zz_aR h b) (ef : ∀ c j b, ¬ (c = 5 ∧ j = 2) → zz_fI h2 c j b = zz_fI h c j b) : CN h2 x m27 A f σ κ := by
  obtain ⟨tg, fi, fr, ai, ar, al⟩ := h2
  dsimp only at e1 e3 e4
  subst e1; subst e3; subst e4
  obtain ⟨c1, c2, c3, c4, c5, c6, c8, c9⟩ := hB
  have on9 := c1.2.2.2.2.2.1
  have nt : ∀ {b : Nat} {q : Nat × Nat}, zz_tg h b = some q → q ≠ (102, 60) → b ≠ or_b h (t_od h x) := fun hb hq z => by
    rw [z, on9] at hb; exact hq (Option.some.inj hb).symm
  have apa : ar (pa_a h (t_pa h x)) = zz_aR h (pa_a h (t_pa h x)) := er _ (nt c1.2.1.2.1 (by decide))
  have akd : ar (t_kd h x) = zz_aR h (t_kd h x) := er _ (nt c1.1.2.2.2.2.2.1 (by decide))
  have epl : ∀ i, pa_l (h.1, fi, h.2.2.1, h.2.2.2.1, ar, al) (t_pa h x) i = pa_l h (t_pa h x) i := fun i => by
    show (ar (pa_a h (t_pa h x)) i).getD 0 = _
    rw [apa]; rfl
  have fI : ∀ c j b, ¬ (c = 5 ∧ j = 2) → fi c j b = zz_fI h c j b := ef
  refine ⟨⟨c1.1, ⟨c1.2.1.1, c1.2.1.2.1, fun i hi => ?_⟩, fun i j hi hj => ?_, c1.2.2.2⟩, c2, ⟨fun t ht => ?_, c3.2⟩, ⟨fun a m ha => ?_, c4.2.1, fun s ls => ?_⟩, fun l hl => ?_, c6, ?_, ?_⟩
  · obtain ⟨q1, q2⟩ := c1.2.1.2.2 i hi
    show ar (pa_a h (t_pa h x)) i = some (pa_l (h.1, fi, h.2.2.1, h.2.2.2.1, ar, al) (t_pa h x) i) ∧ pl_sk (h.1, fi, h.2.2.1, h.2.2.2.1, ar, al) (pa_l (h.1, fi, h.2.2.1, h.2.2.2.1, ar, al) (t_pa h x) i)
    rw [epl i, apa]; exact ⟨q1, q2⟩
  · have := c1.2.2.1 i j hi hj
    rw [← epl i, ← epl j] at this
    exact this
  · obtain ⟨q1, q2⟩ := c3.1 t ht
    refine ⟨fun z => ?_, fun d => ⟨?_, ?_⟩⟩
    · show ar (t_kd h x) t = none
      rw [akd]; exact q1 z
    · show ar (t_kd h x) t = some (κ t)
      rw [akd]; exact (q2 d).1
    · obtain ⟨k1, k2, k3, k4, k5, k6, k7, k8, k9⟩ := (q2 d).2
      have n1 : ∀ j, ¬ (1 = 5 ∧ j = 2) := fun j z => absurd z.1 (by decide)
      exact ⟨k1, (fI 1 0 _ (n1 _)).trans k2, k3, (fI 1 2 _ (n1 _)).trans k4, (fI 1 3 _ (n1 _)).trans k5, (fI 1 4 _ (n1 _)).trans k6, (fI 1 5 _ (n1 _)).trans k7, (fI 1 6 _ (n1 _)).trans k8, k9⟩
  · obtain ⟨q1, q2, q3, q4⟩ := c4.1 a m ha
    refine ⟨q1, q2, q3, ?_⟩
    show fi 2 5 a = 0 ∨ fi 2 5 a = 1
    rw [fI 2 5 a (fun z => absurd z.1 (by decide))]; exact q4
  · obtain ⟨q1, q2, q3⟩ := c4.2.2 s ls
    exact ⟨q1, (fI 2 0 _ (fun z => by omega)).trans q2, q3⟩
  · obtain ⟨q1, q2, q3⟩ := c5 l hl
    show c_p1 (h.1, fi, h.2.2.1, h.2.2.2.1, ar, al) A κ (pa_l (h.1, fi, h.2.2.1, h.2.2.2.1, ar, al) (t_pa h x) l) (l + 1)
    rw [epl l]
    exact ⟨q1, (fI 3 1 _ (fun z => by omega)).trans q2, q3⟩
  · have f61 : fi 6 1 (t_ps h x) = zz_fI h 6 1 (t_ps h x) := fI 6 1 _ (fun z => by omega)
    have f62 : fi 6 2 (t_ps h x) = zz_fI h 6 2 (t_ps h x) := fI 6 2 _ (fun z => by omega)
    show (f 28 = 0 ∧ zz_fR h 6 0 (t_ps h x) = none ∧ fi 6 1 (t_ps h x) = 0 ∧ fi 6 2 (t_ps h x) = 0) ∨ (f 28 = 1 ∧ ∃ w, aLive A w ∧ f 29 = nI w ∧ zz_fR h 6 0 (t_ps h x) = some (σ w) ∧ fi 6 1 (t_ps h x) = 1) ∨ (f 28 = 2 ∧ ∃ w, aLive A w ∧ f 29 = nI w ∧ zz_fR h 6 0 (t_ps h x) = some (σ w) ∧ fi 6 1 (t_ps h x) = 0) ∨ (f 28 = 3 ∧ zz_fR h 6 0 (t_ps h x) = none ∧ fi 6 1 (t_ps h x) = 0 ∧ fi 6 2 (t_ps h x) = 1)
    rw [f61, f62]; exact c8
  · obtain ⟨r1, r2, r3, r4, r5⟩ := c9
    exact ⟨(fI 0 7 _ (fun z => by omega)).trans r1, r2, fun z => (fI 5 4 _ (fun z => by omega)).trans (r3 z), (fI 5 5 _ (fun z => by omega)).trans r4, r5⟩
theorem CN_CB (hB : CN h x m27 A f σ κ) (h1 : zz_fI h 5 2 (t_od h x) = nI LB.length) (h2 : ∀ i e, LB[i]? = some e → zz_aR h (or_b h (t_od h x)) i = some (σ e)) (h3 : ∀ e, e ∈ LB ↔ aLive A e) (h4 : LB.Pairwise (fo_R (aLive A) (aP A) (s0 A))) : CB h x m27 A f σ κ LB := by
  obtain ⟨c1, c2, c3, c4, c5, c6, c8, c9⟩ := hB
  exact ⟨c1, c2, c3, c4, c5, c6, ⟨h1, h2, h3, h4⟩, c8, c9⟩
/-- the newest among its siblings -/
theorem c_eb (hM : aM A f n sw t2) (hB : CN h x m27 A f σ κ) (ls : aLive A s) (hnew : ∀ e, aLive A e → e ≠ s → A 14 e < A 14 s) {e : Nat} (le : aLive A e) (hne : e ≠ s) : sg_eb h (σ s) (σ e) ↔ s0 A s e := by
  obtain ⟨c1, c2, c3, c4, c5, c6, c8, c9⟩ := hB
  obtain ⟨s15, s8, -⟩ := hM.1 s ls
  obtain ⟨e15, e8, -⟩ := hM.1 e le
  obtain ⟨k1, k2, k3, k4, k5, k6, k7, k8, k9⟩ := ((c3.1 _ s8).2 (hM.2.2.1 s ls)).2
  obtain ⟨j1, j2, j3, j4, j5, j6, j7, j8, j9⟩ := ((c3.1 _ e8).2 (hM.2.2.1 e le)).2
  have hlt := hnew e le hne
  have nlt : ¬ A 14 s < A 14 e := fun z => Int32.lt_irrefl (Int32.lt_trans z hlt)
  unfold sg_eb s0
  rw [c_sgk c4 ls, c_sgk c4 le]
  by_cases ek : aK A s = aK A e
  · have e15' : A 15 s = A 15 e := by rw [s15, e15, ek]
    rw [if_pos (by rw [ek]), k6, k8, kd_sq, k6]
    unfold aSq2
    show (A 5 (aK A s) ≠ -1 ∧ (zz_aI h (sg_w h (σ s)) (aSqv A s) < zz_aI h (sg_w h (σ e)) (aSqv A s) ∨ zz_aI h (sg_w h (σ s)) (aSqv A s) = zz_aI h (sg_w h (σ e)) (aSqv A s) ∧ A 7 (aK A s) = 0)) ↔ _
    have hw : A 5 (aK A s) ≠ -1 → zz_aI h (sg_w h (σ s)) (aSqv A s) = A 18 (4 * s + aSqv A s) ∧ zz_aI h (sg_w h (σ e)) (aSqv A s) = A 18 (4 * e + aSqv A s) := fun h5 => by
      obtain ⟨-, -, -, -, ln, l1, l2, l3, l4⟩ := hM.2.1 _ s8 (hM.2.2.1 s ls)
      obtain ⟨j, q1, q2⟩ := l4.resolve_left h5
      have hq : aSqv A s = j := by rw [aSqv, q2]; exact nI_clamp (by omega)
      rw [hq]
      exact ⟨(c4.2.2 s ls).2.2.2.2.2 j (by omega) (by rw [l3]; exact nI_lt q1 (by omega)), (c4.2.2 e le).2.2.2.2.2 j (by omega) (by rw [← ek, l3]; exact nI_lt q1 (by omega))⟩
    constructor
    · rintro ⟨z1, z2⟩
      obtain ⟨w1, w2⟩ := hw z1
      rw [w1, w2] at z2
      refine Or.inr ⟨e15', ?_⟩
      rcases z2 with z2 | ⟨z2, z3⟩
      · exact Or.inl ⟨z1, fun q => Int32.lt_irrefl (q ▸ z2), z2⟩
      · exact Or.inr ⟨Or.inr z2, Or.inr ⟨fun q => q.elim z1 (fun q => q z3), hlt⟩⟩
    · rintro (⟨z, -⟩ | ⟨-, z⟩)
      · exact absurd e15' z
      · rcases z with ⟨z1, z2, z3⟩ | ⟨z1, z2⟩
        · obtain ⟨w1, w2⟩ := hw z1
          rw [w1, w2]; exact ⟨z1, Or.inl z3⟩
        · rcases z2 with ⟨-, z2⟩ | ⟨z2, -⟩
          · exact absurd z2 nlt
          · have n5 : A 5 (aK A s) ≠ -1 := fun q => z2 (Or.inl q)
            have n7 : A 7 (aK A s) = 0 := Classical.byContradiction (fun q => z2 (Or.inr q))
            obtain ⟨w1, w2⟩ := hw n5
            rw [w1, w2]; exact ⟨n5, Or.inr ⟨z1.resolve_left n5, n7⟩⟩
  · have n15 : A 15 s ≠ A 15 e := fun z => ek (aK_of z)
    rw [if_neg (fun z => ek (c_κinj c3 s8 e8 (hM.2.2.1 s ls) (hM.2.2.1 e le) z)), k2, j2, ← s15, ← e15]
    constructor
    · intro z; exact Or.inl ⟨n15, z⟩
    · rintro (⟨-, z⟩ | ⟨z, -⟩)
      · exact z
      · exact absurd z n15
theorem c_pareq (hW : aWl A) (hN : aNum A) (c4 : c_sg h A σ κ) {e : Nat} (ls : aLive A s) (le : aLive A e) : zz_fR h 2 2 (σ e) = zz_fR h 2 2 (σ s) ↔ aP A e = aP A s := by
  rw [c_par c4 hW le, c_par c4 hW ls]
  have lp : ∀ a, aLive A a → ∀ p, aP A a = some p → aLive A p := fun a la p hp => by
    obtain ⟨-, -, -, ⟨g1, -⟩ | ⟨q, g1, g2, -⟩⟩ := aWl_fo hW a la
    · rw [g1] at hp; cases hp
    · rw [g1] at hp; cases hp; exact g2
  cases h1 : aP A e with
  | none =>
    cases h2 : aP A s with
    | none => exact ⟨fun _ => rfl, fun _ => rfl⟩
    | some q => exact ⟨fun z => (by cases z), fun z => (by cases z)⟩
  | some p =>
    cases h2 : aP A s with
    | none => exact ⟨fun z => (by cases z), fun z => (by cases z)⟩
    | some q =>
      constructor
      · intro z
        rw [c_σinj c4 hN (lp e le p h1) (lp s ls q h2) (Option.some.inj z)]
      · intro z; rw [Option.some.inj z]
set_option maxHeartbeats 4000000 in
/-- it enters -/
theorem CB_enter (hM : aM A f n sw t2) (hB : CN h x m27 A f σ κ) (ls : aLive A s) (hnew : ∀ e, aLive A e → e ≠ s → A 14 e < A 14 s) (hleaf : ∀ e, aLive A e → A 16 e ≠ nI s) (hs2 : zz_fI h 5 2 (t_od h x) = nI LB.length) (h60 : LB.length < 60) (hL : ∀ i e, LB[i]? = some e → zz_aR h (or_b h (t_od h x)) i = some (σ e)) (hm : ∀ e, e ∈ LB ↔ aLive A e ∧ e ≠ s) (hp : LB.Pairwise (fo_R (aLive A) (aP A) (s0 A))) {to : Nat} (he : or_entry h (t_od h x) (σ s) to) : CB (or_is h (t_od h x) (σ s) to) x m27 A f σ κ (LB.take to ++ s :: LB.drop to) := by
  have hw := aWl_fo hM.1
  have hsb := s0_sb hM.2.2.2.2.1
  have hsz : or_s h (t_od h x) = LB.length := by rw [or_s, hs2]; exact nI_clamp (by omega)
  have hgB : ∀ i e, LB[i]? = some e → or_B h (t_od h x) i = σ e := fun i e hi => by rw [or_B, hL i e hi]; rfl
  have c4 := hB.2.2.2.1
  have c3 := hB.2.2.1
  have aPl : ∀ e, aLive A e → aP A e ≠ some s := fun e le z => by
    obtain ⟨-, -, -, -, -, ⟨g1, -⟩ | ⟨p, g1, g2, -⟩⟩ := hM.1 e le
    · rw [aP, if_pos g1] at z; cases z
    · have := g1.1
      have := ls.1
      rw [aP, g2, if_neg (nI_neg (by omega)), nI_clamp (by omega)] at z
      exact hleaf e le (by rw [g2, Option.some.inj z])
  have hE : ∀ i e, LB[i]? = some e → (or_eE h (t_od h x) (σ s) i ↔ aP A e = aP A s ∧ s0 A s e) := fun i e hi => by
    obtain ⟨le, ne⟩ := (hm e).mp (List.mem_of_getElem? hi)
    rw [or_eE, hgB i e hi, c_pareq hM.1 hM.2.2.2.2.1 c4 ls le, c_eb hM hB ls hnew le ne]
  have hT : ∀ i e, LB[i]? = some e → (or_eT h (t_od h x) (σ s) i ↔ ∀ t, aP A s = some t → fo_in (aP A) t e) := fun i e hi => by
    obtain ⟨le, ne⟩ := (hm e).mp (List.mem_of_getElem? hi)
    rw [or_eT, hgB i e hi, c_par c4 hM.1 ls]
    cases h1 : aP A s with
    | none => exact ⟨fun _ t z => (by cases z), fun _ t z => (by cases z)⟩
    | some p =>
      have lp : aLive A p := by
        obtain ⟨-, -, -, ⟨g1, -⟩ | ⟨q, g1, g2, -⟩⟩ := hw s ls
        · rw [g1] at h1; cases h1
        · rw [g1] at h1; cases h1; exact g2
      have := c_in c3 c4 hM.1 hM.2.2.1 hM.2.2.2.2.1 lp le
      constructor
      · intro z t ht
        cases ht
        exact this.mp (z (σ p) rfl)
      · intro z t ht
        cases ht
        exact this.mpr (z p rfl)
  have gt : ∀ i, i < LB.length → ∃ e, LB[i]? = some e := fun i hi => ⟨_, List.getElem?_eq_getElem hi⟩
  have hto : to ≤ LB.length := by
    rcases he with ⟨z, -⟩ | ⟨-, z, -⟩
    · omega
    · omega
  have hpw := fo_enter hw hsb ls (fo_leaf hw ls aPl) hm hp (r := to) (by
    rcases he with ⟨z1, z2, z3⟩ | ⟨z1, z2, z3, z4⟩
    · obtain ⟨d, hd⟩ := gt to (by omega)
      exact Or.inl ⟨d, hd, (hE to d hd).mp z2, fun j e hj hjt w => z3 j (by omega) hjt ((hE j e hj).mpr w)⟩
    · refine Or.inr ⟨fun j e hj w => z1 j (by omega) (by rw [hsz]; exact (List.getElem?_eq_some_iff.mp hj).1) ((hE j e hj).mpr w), hto, ?_, fun j e hj hjt w => z4 j hjt (by rw [hsz]; exact (List.getElem?_eq_some_iff.mp hj).1) ((hT j e hj).mpr w)⟩
      by_cases t0 : to = 0
      · exact Or.inl t0
      · obtain ⟨g, hg⟩ := gt (to - 1) (by omega)
        exact Or.inr ⟨g, hg, (hT _ g hg).mp (z3.resolve_left t0)⟩)
  have hCN : CN (or_is h (t_od h x) (σ s) to) x m27 A f σ κ := CN_fb hB rfl rfl rfl (fun b hb => by
    funext i
    exact (if_neg (fun z => hb z.1)).trans (if_neg (fun z => hb z.1))) (fun c j b hn => if_neg (fun z => hn ⟨z.1, z.2.1⟩))
  refine CN_CB hCN ?_ (fun i e hi => ?_) (fun e => ?_) hpw
  · show zz_fI (or_is h (t_od h x) (σ s) to) 5 2 (t_od h x) = _
    rw [or_is_q, hsz]
    congr 1
    simp only [List.length_append, List.length_take, List.length_cons, List.length_drop]
    omega
  · show zz_aR (or_is h (t_od h x) (σ s) to) (or_b h (t_od h x)) i = some (σ e)
    rw [or_is_b, hsz]
    have lt : (LB.take to).length = to := by rw [List.length_take]; omega
    by_cases h1 : i < to
    · rw [if_pos h1]
      rw [List.getElem?_append_left (by omega), List.getElem?_take_of_lt h1] at hi
      exact hL i e hi
    · rw [if_neg h1]
      rw [List.getElem?_append_right (by omega), lt] at hi
      by_cases h2 : i = to
      · rw [if_pos h2]
        rw [h2, Nat.sub_self, List.getElem?_cons_zero] at hi
        rw [Option.some.inj hi]
      · rw [if_neg h2]
        have e9 : i - to = (i - 1 - to) + 1 := by omega
        rw [e9, List.getElem?_cons_succ, List.getElem?_drop, show to + (i - 1 - to) = i - 1 by omega] at hi
        have := (List.getElem?_eq_some_iff.mp hi).1
        rw [if_pos (by omega)]
        exact hL _ e hi
  · have e9 : e ∈ LB.take to ++ s :: LB.drop to ↔ e = s ∨ e ∈ LB := by
      rw [List.mem_append, List.mem_cons]
      constructor
      · rintro (z | z | z)
        · exact Or.inr (List.mem_of_mem_take z)
        · exact Or.inl z
        · exact Or.inr (List.mem_of_mem_drop z)
      · rintro (z | z)
        · exact Or.inr (Or.inl z)
        · rw [← List.take_append_drop to LB, List.mem_append] at z
          exact z.imp id Or.inr
    rw [e9, hm e]
    constructor
    · rintro (z | z)
      · rw [z]; exact ls
      · exact z.1
    · intro z
      by_cases e1 : e = s
      · exact Or.inl e1
      · exact Or.inr ⟨z, e1⟩
end FB
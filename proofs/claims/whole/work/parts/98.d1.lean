/-! the class's other order is the reference's -/
theorem i64_of (a : Int32) : a.toInt64.toInt = a.toInt := Int32.toInt_toInt64 a
theorem i64_le {a b : Int32} (h : a ≤ b) : a.toInt64 ≤ b.toInt64 := by
  rw [Int64.le_iff_toInt_le, i64_of, i64_of]; exact Int32.le_iff_toInt_le.mp h
theorem mB40_int : mB40.toInt = 1099511627776 := by decide +kernel
theorem i32_bd (a : Int32) : a.toInt < 2147483648 := by have := Int32.toInt_lt a; omega
/-- values: what a root has, on both sides -/
def vOK (h5 : Int32) (h6 : Int32) (v : Int64) : Prop := (h5 = 0 ∧ v = mB40) ∨ (h5 = 1 ∧ v = h6.toInt64)
theorem cb_s1 {a5 a6 b5 b6 na nb : Int32} {va vb : Int64} (ha : vOK a5 a6 va) (hb : vOK b5 b6 vb) : ((a5 ≠ b5 ∧ a5 = 1) ∨ (a5 = b5 ∧ ((a5 ≠ 0 ∧ a6 ≠ b6 ∧ a6 < b6) ∨ ((a5 = 0 ∨ a6 = b6) ∧ na < nb)))) ↔ ((va ≠ vb ∧ va < vb) ∨ (va = vb ∧ na < nb)) := by
  have e01 : (0 : Int32) ≠ 1 := by decide
  have inj : ∀ {x y : Int32}, x.toInt64 = y.toInt64 → x = y := fun {x y} z => Int32.toInt_inj.mp (by rw [← i64_of x, ← i64_of y, z])
  have lt6 : ∀ {x y : Int32}, x < y ↔ x.toInt64 < y.toInt64 := fun {x y} => by rw [Int32.lt_iff_toInt_lt, Int64.lt_iff_toInt_lt, i64_of, i64_of]
  have big : ∀ x : Int32, x.toInt64 < mB40 := fun x => by
    rw [Int64.lt_iff_toInt_lt, i64_of, mB40_int]; have := i32_bd x; omega
  rcases ha with ⟨a1, a2⟩ | ⟨a1, a2⟩
  · rcases hb with ⟨b1, b2⟩ | ⟨b1, b2⟩
    · rw [a1, b1, a2, b2]
      constructor
      · rintro (⟨z, -⟩ | ⟨-, ⟨z, -⟩ | ⟨-, z⟩⟩)
        · exact absurd rfl z
        · exact absurd rfl z
        · exact Or.inr ⟨rfl, z⟩
      · rintro (⟨z, -⟩ | ⟨-, z⟩)
        · exact absurd rfl z
        · exact Or.inr ⟨rfl, Or.inr ⟨Or.inl rfl, z⟩⟩
    · rw [a1, b1, a2, b2]
      constructor
      · rintro (⟨-, z⟩ | ⟨z, -⟩)
        · exact absurd z e01
        · exact absurd z e01
      · rintro (⟨-, z⟩ | ⟨z, -⟩)
        · exact absurd (Int64.lt_trans z (big _)) (Int64.lt_irrefl)
        · exact absurd (z ▸ big b6) (Int64.lt_irrefl)
  · rcases hb with ⟨b1, b2⟩ | ⟨b1, b2⟩
    · rw [a1, b1, a2, b2]
      constructor
      · intro _
        exact Or.inl ⟨fun z => absurd (z ▸ big a6) (Int64.lt_irrefl), big a6⟩
      · intro _
        exact Or.inl ⟨e01.symm, rfl⟩
    · rw [a1, b1, a2, b2]
      constructor
      · rintro (⟨z, -⟩ | ⟨-, ⟨-, z1, z2⟩ | ⟨z1, z2⟩⟩)
        · exact absurd rfl z
        · exact Or.inl ⟨fun z => z1 (inj z), lt6.mp z2⟩
        · rcases z1 with z1 | z1
          · exact absurd z1 e01.symm
          · exact Or.inr ⟨by rw [z1], z2⟩
      · rintro (⟨z1, z2⟩ | ⟨z1, z2⟩)
        · exact Or.inr ⟨rfl, Or.inl ⟨e01.symm, fun z => z1 (by rw [z]), lt6.mpr z2⟩⟩
        · exact Or.inr ⟨rfl, Or.inr ⟨Or.inr (inj z1), z2⟩⟩
/-! kinds up to the root -/
section KR
variable {h : zz_H} {x n : Nat} {A : aA} {f : aF} {σ κ : Nat → Nat} {sw t2 : Nat}
theorem c_root (hk : c_kd h x A κ) (ht : aWt A) : ∀ m t, t < 8 → A 1 t ≠ 0 → kd_root h m (κ t) = κ (aRt A m t) ∧ aRt A m t < 8 ∧ A 1 (aRt A m t) ≠ 0
  | 0, t, t8, d => ⟨rfl, t8, d⟩
  | m + 1, t, t8, d => by
    have e := ((hk.1 t t8).2 d).2.2.2.1
    rw [kd_root, aRt, e]
    obtain ⟨-, -, -, ⟨z, -⟩ | ⟨p, p8, dp, z, -⟩, -⟩ := ht t t8 d
    · rw [oS_n z, aAb, if_pos z]; exact ⟨rfl, t8, d⟩
    · rw [oS_s (by omega) z, aAb, if_neg (by rw [z]; exact nI_neg (by omega)), z, nI_clamp (by omega)]
      exact c_root hk ht m p p8 dp
theorem aRt_root (ht : aWt A) : ∀ m t, t < 8 → A 1 t ≠ 0 → aT A t ≤ m + 1 → A 2 (aRt A m t) = -1 ∧ aT A (aRt A m t) = 1
  | 0, t, t8, d, hl => by
    obtain ⟨-, l1, -, ⟨z, z2⟩ | ⟨p, p8, dp, z, z2⟩, -⟩ := ht t t8 d
    · exact ⟨z, z2⟩
    · have := (ht p p8 dp).2.1; omega
  | m + 1, t, t8, d, hl => by
    rw [aRt]
    obtain ⟨-, l1, -, ⟨z, z2⟩ | ⟨p, p8, dp, z, z2⟩, -⟩ := ht t t8 d
    · rw [aAb, if_pos z]; exact ⟨z, z2⟩
    · rw [aAb, if_neg (by rw [z]; exact nI_neg (by omega)), z, nI_clamp (by omega)]
      exact aRt_root ht m p p8 dp (by omega)
theorem aRt_seg (hw : aWl A) (ht : aWt A) (hd : aKd A) (hp : aPk A) : ∀ m s, aLive A s → aLv A s ≤ m + 1 → aRt A m (aK A s) = aK A (aRo A s)
  | m, s, ls, hl => by
    have h4 := (hw s ls).2.2.2.2.1
    obtain ⟨-, k8, -, l1, -, ⟨g1, g2⟩ | ⟨p, g1, g2, g3⟩⟩ := hw s ls
    · have e1 : aRo A s = s := fo_at_hi (by omega) 3
      rw [e1]
      cases m with
      | zero => rfl
      | succ m => rw [aRt, aAb, if_pos ((hp s ls).1 g1)]
    · have e2 := (hp s ls).2 p g1 g2
      obtain ⟨p15, p8, -⟩ := hw p g1
      have l2 := (hw p g1).2.2.2.1
      have ep : aP A s = some p := by have := g1.1; rw [aP, g2, if_neg (nI_neg (by omega)), nI_clamp (by omega)]
      have e1 : aRo A s = aRo A p := fo_at_par (aWl_fo hw) ls ep g1 (by omega) l2 g3
      cases m with
      | zero => omega
      | succ m =>
        rw [aRt, aAb, e2, p15, if_neg (nI_neg (by omega)), nI_clamp (by omega), e1]
        exact aRt_seg hw ht hd hp m p g1 (by omega)
end KR
/-- h2 is h but for the order there is now and the values -/
def or_fr (h h2 : zz_H) (on : Nat) : Prop := h2.1 = h.1 ∧ h2.2.2.1 = h.2.2.1 ∧ h2.2.2.2.1 = h.2.2.2.1 ∧ h2.2.2.2.2.2 = h.2.2.2.2.2 ∧ (∀ b, b ≠ on → zz_aR h2 b = zz_aR h b) ∧ (∀ c j b, ¬ (c = 2 ∧ (j = 5 ∨ j = 6)) → zz_fI h2 c j b = zz_fI h c j b) ∧ ∀ b, zz_fI h2 2 5 b = 0 ∨ zz_fI h2 2 5 b = 1 ∨ zz_fI h2 2 5 b = zz_fI h 2 5 b
/-- the class's object but for the order there is now -/
def CB (h : zz_H) (x m27 : Nat) (A : aA) (f : aF) (σ κ : Nat → Nat) (LB : List Nat) : Prop := c_sk h x ∧ c_sp h x m27 ∧ c_kd h x A κ ∧ c_sg h A σ κ ∧ c_pa h x A κ ∧ c_wk h x A ∧ (zz_fI h 5 2 (t_od h x) = nI LB.length ∧ (∀ i e, LB[i]? = some e → zz_aR h (or_b h (t_od h x)) i = some (σ e)) ∧ (∀ e, e ∈ LB ↔ aLive A e) ∧ LB.Pairwise (fo_R (aLive A) (aP A) (s0 A))) ∧ c_po h x A f σ ∧ c_rs h x f σ κ
section AR2
variable {h h2 : zz_H} {x m27 n : Nat} {A : aA} {f : aF} {σ κ : Nat → Nat} {LB LN : List Nat} {sw t2 : Nat}
theorem CA_CB (hC : CA h x m27 A f σ κ LB LN sw t2) : CB h x m27 A f σ κ LB := by
  obtain ⟨c1, c2, c3, c4, c5, c6, c7, c8, c9⟩ := hC
  exact ⟨c1, c2, c3, c4, c5, c6, ⟨c7.1, c7.2.2.1, c7.2.2.2.2.1, c7.2.2.2.2.2.2.1⟩, c8, c9⟩
theorem CB_CA (hB : CB h x m27 A f σ κ LB) (hl : LN.length = LB.length) (hN : ∀ i e, LN[i]? = some e → zz_aR h (or_n h (t_od h x)) i = some (σ e)) (hm : ∀ e, e ∈ LN ↔ aLive A e) (hp : ∀ v, PV A f sw v → LN.Pairwise (fo_R (aLive A) (aP A) (s1 A f t2 v))) : CA h x m27 A f σ κ LB LN sw t2 := by
  obtain ⟨c1, c2, c3, c4, c5, c6, c7, c8, c9⟩ := hB
  exact ⟨c1, c2, c3, c4, c5, c6, ⟨c7.1, hl, c7.2.1, hN, c7.2.2.1, hm, c7.2.2.2, hp⟩, c8, c9⟩
theorem CB_fr (hB : CB h x m27 A f σ κ LB) (hf : or_fr h h2 (or_n h (t_od h x))) : CB h2 x m27 A f σ κ LB := by
  obtain ⟨tg, fi, fr, ai, ar, al⟩ := h2
  obtain ⟨e1, e3, e4, e6, er, ef, e5⟩ := hf
  dsimp only at e1 e3 e4 e6
  subst e1; subst e3; subst e4; subst e6
  obtain ⟨c1, c2, c3, c4, c5, c6, c7, c8, c9⟩ := hB
  have on9 := c1.2.2.2.2.2.2.1
  have nt : ∀ {b : Nat} {q : Nat × Nat}, zz_tg h b = some q → q ≠ (102, 60) → b ≠ or_n h (t_od h x) := fun hb hq z => by
    rw [z, on9] at hb; exact hq (Option.some.inj hb).symm
  have apa : ar (pa_a h (t_pa h x)) = zz_aR h (pa_a h (t_pa h x)) := er _ (nt c1.2.1.2.1 (by decide))
  have akd : ar (t_kd h x) = zz_aR h (t_kd h x) := er _ (nt c1.1.2.2.2.2.2.1 (by decide))
  have aob : ar (or_b h (t_od h x)) = zz_aR h (or_b h (t_od h x)) := er _ c1.2.2.2.2.2.2.2
  have epl : ∀ i, pa_l (h.1, fi, h.2.2.1, h.2.2.2.1, ar, h.2.2.2.2.2) (t_pa h x) i = pa_l h (t_pa h x) i := fun i => by
    show (ar (pa_a h (t_pa h x)) i).getD 0 = _
    rw [apa]; rfl
  have fI : ∀ c j b, ¬ (c = 2 ∧ (j = 5 ∨ j = 6)) → fi c j b = zz_fI h c j b := ef
  refine ⟨⟨c1.1, ⟨c1.2.1.1, c1.2.1.2.1, fun i hi => ?_⟩, fun i j hi hj => ?_, c1.2.2.2⟩, c2, ⟨fun t ht => ?_, c3.2⟩, ⟨fun a m ha => ?_, c4.2.1, fun s ls => ?_⟩, fun l hl => ?_, c6, ⟨?_, fun i e he => ?_, c7.2.2⟩, ?_, ?_⟩
  · obtain ⟨q1, q2⟩ := c1.2.1.2.2 i hi
    show ar (pa_a h (t_pa h x)) i = some (pa_l (h.1, fi, h.2.2.1, h.2.2.2.1, ar, h.2.2.2.2.2) (t_pa h x) i) ∧ pl_sk (h.1, fi, h.2.2.1, h.2.2.2.1, ar, h.2.2.2.2.2) (pa_l (h.1, fi, h.2.2.1, h.2.2.2.1, ar, h.2.2.2.2.2) (t_pa h x) i)
    rw [epl i, apa]; exact ⟨q1, q2⟩
  · have := c1.2.2.1 i j hi hj
    rw [← epl i, ← epl j] at this
    exact this
  · obtain ⟨q1, q2⟩ := c3.1 t ht
    refine ⟨fun z => ?_, fun d => ⟨?_, ?_⟩⟩
    · show ar (t_kd h x) t = none
      rw [akd]; exact q1 z
    · show ar (t_kd h x) t = some (κ t)
      rw [akd]; exact (q2 d).1
    · obtain ⟨k1, k2, k3, k4, k5, k6, k7, k8, k9⟩ := (q2 d).2
      have n1 : ∀ j, ¬ (1 = 2 ∧ (j = 5 ∨ j = 6)) := fun j z => absurd z.1 (by decide)
      exact ⟨k1, (fI 1 0 _ (n1 _)).trans k2, k3, (fI 1 2 _ (n1 _)).trans k4, (fI 1 3 _ (n1 _)).trans k5, (fI 1 4 _ (n1 _)).trans k6, (fI 1 5 _ (n1 _)).trans k7, (fI 1 6 _ (n1 _)).trans k8, k9⟩
  · obtain ⟨q1, q2, q3, q4⟩ := c4.1 a m ha
    refine ⟨q1, q2, q3, ?_⟩
    rcases e5 a with z | z | z
    · exact Or.inl z
    · exact Or.inr z
    · show fi 2 5 a = 0 ∨ fi 2 5 a = 1
      rw [show fi 2 5 a = zz_fI h 2 5 a from z]; exact q4
  · obtain ⟨q1, q2, q3⟩ := c4.2.2 s ls
    exact ⟨q1, (fI 2 0 _ (fun z => by omega)).trans q2, q3⟩
  · obtain ⟨q1, q2, q3⟩ := c5 l hl
    show c_p1 (h.1, fi, h.2.2.1, h.2.2.2.1, ar, h.2.2.2.2.2) A κ (pa_l (h.1, fi, h.2.2.1, h.2.2.2.1, ar, h.2.2.2.2.2) (t_pa h x) l) (l + 1)
    rw [epl l]
    exact ⟨q1, (fI 3 1 _ (fun z => by omega)).trans q2, q3⟩
  · exact (fI 5 2 _ (fun z => by omega)).trans c7.1
  · show ar (or_b h (t_od h x)) i = some (σ e)
    rw [aob]; exact c7.2.1 i e he
  · have f61 : fi 6 1 (t_ps h x) = zz_fI h 6 1 (t_ps h x) := fI 6 1 _ (fun z => by omega)
    have f62 : fi 6 2 (t_ps h x) = zz_fI h 6 2 (t_ps h x) := fI 6 2 _ (fun z => by omega)
    show (f 28 = 0 ∧ zz_fR h 6 0 (t_ps h x) = none ∧ fi 6 1 (t_ps h x) = 0 ∧ fi 6 2 (t_ps h x) = 0) ∨ (f 28 = 1 ∧ ∃ w, aLive A w ∧ f 29 = nI w ∧ zz_fR h 6 0 (t_ps h x) = some (σ w) ∧ fi 6 1 (t_ps h x) = 1) ∨ (f 28 = 2 ∧ ∃ w, aLive A w ∧ f 29 = nI w ∧ zz_fR h 6 0 (t_ps h x) = some (σ w) ∧ fi 6 1 (t_ps h x) = 0) ∨ (f 28 = 3 ∧ zz_fR h 6 0 (t_ps h x) = none ∧ fi 6 1 (t_ps h x) = 0 ∧ fi 6 2 (t_ps h x) = 1)
    rw [f61, f62]; exact c8
  · obtain ⟨r1, r2, r3, r4, r5⟩ := c9
    exact ⟨(fI 0 7 _ (fun z => by omega)).trans r1, r2, fun z => (fI 5 4 _ (fun z => by omega)).trans (r3 z), (fI 5 5 _ (fun z => by omega)).trans r4, r5⟩
end AR2
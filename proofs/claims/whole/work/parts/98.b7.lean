/-! segment, clearPath, second -/
section SG
variable {h : zz_H} {x m27 n r u : Nat} {A : aA} {f : aF} {σ κ : Nat → Nat} {LB LN : List Nat} {sw t2 : Nat}
theorem c_nb (hs : c_sg h A σ κ) {y : Int32} (hy : y = -1 ∨ ∃ b, aLive A b ∧ y = nI b) : t_nb h (oS σ y) = if y = -1 then 0 else A 14 y.toNatClampNeg := by
  rcases hy with e | ⟨b, lb, e⟩
  · rw [oS_n e, if_pos e]; rfl
  · rw [oS_s lb.1 e, if_neg (by rw [e]; exact nI_neg (by have := lb.1; omega)), e, nI_clamp (by have := lb.1; omega)]
    exact (hs.2.2 b lb).2.1
theorem c_tsg (hM : aM (mA h r) f n sw t2) (hC : CA h x m27 (mA h r) f σ κ LB LN sw t2) {s : Nat} (ls : aLive (mA h r) s) (wh : Int32) : t_sg h (σ s) wh = mSg h r s wh := by
  obtain ⟨k1, k8, k3, -, -, k6⟩ := hM.1 s ls
  have hk := ((hC.2.2.1.1 _ k8).2 (hM.2.2.1 s ls)).2
  have ek := c_sgk hC.2.2.2.1 ls
  obtain ⟨s1, s2, s3, s4, s5, s6⟩ := hC.2.2.2.1.2.2 s ls
  rw [t_sg, mSg]
  by_cases e0 : wh = 0
  · rw [if_pos e0, if_pos e0, ek, hk.2.1]; exact k1.symm
  · rw [if_neg e0, if_neg e0]
    by_cases e1 : wh = 1
    · rw [if_pos e1, if_pos e1, s4]
      refine (c_nb hC.2.2.2.1 ?_).trans rfl
      rcases k6 with ⟨g, -⟩ | ⟨p, g1, g2, -⟩
      · exact Or.inl g
      · exact Or.inr ⟨p, g1, g2⟩
    · rw [if_neg e1, if_neg e1]
      by_cases e2 : wh = 2
      · rw [if_pos e2, if_pos e2, s5]
        refine (c_nb hC.2.2.2.1 ?_).trans rfl
        rcases hM.2.2.2.2.2.2.2.2.2.2.1 s ls with g | ⟨p, g1, g2, -⟩
        · exact Or.inl g
        · exact Or.inr ⟨p, g1, g2⟩
      · rw [if_neg e2, if_neg e2]
        by_cases e3 : wh = 3
        · rw [if_pos e3, if_pos e3, ek, hk.2.2.2.1]; rfl
        · rw [if_neg e3, if_neg e3, t_wq, ek, hk.2.2.2.2.1]
          have en : (nI (mK h r s)).toNatClampNeg = aK (mA h r) s := nI_clamp (by have : mK h r s < 8 := k8; omega)
          rw [en]
          by_cases hb : 10 ≤ wh ∧ 0 ≤ wh - 10 ∧ wh - 10 < mA h r 4 (aK (mA h r) s)
          · rw [if_pos hb, if_pos ⟨Int32.not_lt.mpr hb.1, hb.2.1, hb.2.2⟩]
            obtain ⟨-, -, -, -, ln, l1, l2, l3, -⟩ := hM.2.1 _ k8 (hM.2.2.1 s ls)
            obtain ⟨j4, ej⟩ := nI_in9 (t := wh - 10) (n := ln) rfl (by omega) (Int32.not_lt.mpr hb.2.1) (by rw [← l3]; exact hb.2.2)
            exact s6 _ (by omega) (by rw [← ej]; exact hb.2.2)
          · rw [if_neg hb, if_neg (fun z => hb ⟨Int32.not_lt.mp z.1, z.2.1, z.2.2⟩)]
end SG
theorem ok_segment : st_segment Rel := fun n h x r u p1 p2 _ hR _ => by
  obtain ⟨hok, hap, hu, σ, κ, LB, LN, sw, t2, hM, hC⟩ := hR
  have fin : Rel (n + 1) (mo_bg (t_h0 h x) r) x r u := Rel_mk (h1 := t_h0 h x) hok hap hu rfl (mQ_bg _ _) (aM_up (aM_h0 hM)) (CA_h0 hC) rfl rfl rfl (mo_bg_c _ _) (fun _ _ _ _ _ => rfl)
  have htn : mo_tn h r := fun s ls => (hM.2.2.2.2.2.2.2.2.2.2.1 s ls).imp id (fun ⟨b, lb, e, _⟩ => ⟨b, lb.1, e⟩)
  have ho := hC.2.2.2.2.2.2.1
  refine ⟨_, ⟨x, p1, p2, rfl, CA_twf hM hC, fun res hres => ⟨fun hn => ?_, fun s hs => ?_⟩⟩, fun _ _ z => z⟩
  · have hno : ∀ j, j < 60 → ¬ (0 < p1 ∧ ma (t_h0 h x) r 14 j = p1) := fun j hj z => by
      have lj : aLive (mA h r) j := ⟨hj, by show 0 < ma h r 14 j; rw [show ma h r 14 j = p1 from z.2]; exact z.1⟩
      obtain ⟨i, hi⟩ := List.getElem?_of_mem ((ho.2.2.2.2.2.1 j).mpr lj)
      have hi2 : i < or_s h (t_od h x) := by rw [c_size ho, ← ho.2.1]; exact (List.getElem?_eq_some_iff.mp hi).1
      rcases hres with ⟨-, hall⟩ | ⟨i', -, -, -, -, e⟩
      · exact hall i (Nat.zero_le _) hi2 (by show zz_fI h 2 0 (or_N h (t_od h x) i) = p1; rw [c_N ho hi, (hC.2.2.2.1.2.2 j lj).2.1]; exact z.2)
      · rw [hn] at e; cases e
    exact ⟨_, rfl, _, ⟨r, p1, p2, rfl, hok, hM.1, hM.2.1, hM.2.2.1, htn, fun _ => ⟨rfl, fin⟩, fun j hj z1 z2 => absurd ⟨z1, z2⟩ (hno j hj)⟩, fun _ _ z => z⟩
  · rcases hres with ⟨e, -⟩ | ⟨i, -, hi, hP, -, e⟩
    · rw [e] at hs; cases hs
    · obtain ⟨e9, h1, le, hN⟩ := c_getN ho hi
      rw [e] at hs
      cases hs
      have hP : zz_fI h 2 0 (or_N h (t_od h x) i) = p1 := hP
      rw [hN] at hP ⊢
      have enum : mA h r 14 e9 = p1 := by rw [← (hC.2.2.2.1.2.2 e9 le).2.1]; exact hP
      refine ⟨_, rfl, _, ⟨r, p1, p2, rfl, hok, hM.1, hM.2.1, hM.2.2.1, htn, fun z => absurd ⟨by rw [← enum]; exact le.2, enum⟩ (z e9 le.1), fun j hj z1 z2 => ⟨?_, fin⟩⟩, fun _ _ z => z⟩
      have lj : aLive (mA h r) j := ⟨hj, by show 0 < ma h r 14 j; rw [show ma h r 14 j = p1 from z2]; exact z1⟩
      have : j = e9 := hM.2.2.2.2.1 j e9 lj le ((show mA h r 14 j = p1 from z2).trans enum.symm)
      subst this
      show some (zz_i (mSg h r j p2)) = _
      rw [c_tsg hM hC le]
section CP
variable {h : zz_H} {x m27 n r u : Nat} {A : aA} {f : aF} {σ κ : Nat → Nat} {LB LN : List Nat} {sw t2 : Nat}
def aCl (A : aA) : aA := fun j i => if j = 22 ∧ i < 5 then -1 else if j = 23 ∧ i < 5 then 0 else A j i
theorem mA_cl {h : zz_H} {r : Nat} (hap : mo_ap h r) : mA (mo_cl h r 5) r = aCl (mA h r) := by
  funext i l
  show (if mS i = true then (if mf h r i = mf h r 22 ∧ l < 5 then -1 else if mf h r i = mf h r 23 ∧ l < 5 then 0 else zz_aI h (mf h r i) l) else 0) = (if i = 22 ∧ l < 5 then -1 else if i = 23 ∧ l < 5 then 0 else if mS i = true then zz_aI h (mf h r i) l else 0)
  have ne : ∀ i j, mS i = true → mS j = true → i ≠ j → mf h r i ≠ mf h r j := fun i j h1 h2 => hap i j (mS_sz h1).1 (mS_sz h2).1
  by_cases e : i = 22
  · subst e
    rw [if_pos (show mS 22 = true from rfl)]
    by_cases e2 : l < 5
    · rw [if_pos ⟨rfl, e2⟩, if_pos ⟨rfl, e2⟩]
    · rw [if_neg (fun z => e2 z.2), if_neg (fun z => e2 z.2), if_neg (fun z => e2 z.2), if_neg (fun z => e2 z.2), if_pos (show mS 22 = true from rfl)]
  · rw [if_neg (c := i = 22 ∧ l < 5) (fun z => e z.1)]
    by_cases e1 : i = 23
    · subst e1
      rw [if_pos (show mS 23 = true from rfl), if_neg (fun z => ne 23 22 rfl rfl (by decide) z.1)]
      by_cases e2 : l < 5
      · rw [if_pos ⟨rfl, e2⟩, if_pos ⟨rfl, e2⟩]
      · rw [if_neg (fun z => e2 z.2), if_neg (fun z => e2 z.2), if_pos (show mS 23 = true from rfl)]
    · rw [if_neg (c := i = 23 ∧ l < 5) (fun z => e1 z.1)]
      by_cases e3 : mS i = true
      · rw [if_pos e3, if_pos e3, if_neg (fun z => ne i 22 e3 rfl e z.1), if_neg (fun z => ne i 23 e3 rfl e1 z.1)]
      · rw [if_neg e3, if_neg e3]
theorem pa_fg_R (h : zz_H) (F : Nat → Nat) : ∀ m, (∀ c j b, ¬ (c = 3 ∧ j = 0) → zz_fR (pa_fg h F m) c j b = zz_fR h c j b) ∧ (∀ i, i < m → zz_fR (pa_fg h F m) 3 0 (F i) = none) ∧ (∀ c j b, ¬ (c = 3 ∧ j = 1) → zz_fI (pa_fg h F m) c j b = zz_fI h c j b) ∧ ∀ i, i < m → zz_fI (pa_fg h F m) 3 1 (F i) = 0
  | 0 => ⟨fun _ _ _ _ => rfl, fun i hi => by omega, fun _ _ _ _ => rfl, fun i hi => by omega⟩
  | m + 1 => by
    obtain ⟨i1, i2, i3, i4⟩ := pa_fg_R h F m
    refine ⟨fun c j b hn => ?_, fun i hi => ?_, fun c j b hn => ?_, fun i hi => ?_⟩
    · show (if c = 3 ∧ j = 0 ∧ b = F m then none else zz_fR (pa_fg h F m) c j b) = _
      rw [if_neg (fun z => hn ⟨z.1, z.2.1⟩)]; exact i1 c j b hn
    · show (if 3 = 3 ∧ 0 = 0 ∧ F i = F m then none else zz_fR (pa_fg h F m) 3 0 (F i)) = _
      by_cases e : F i = F m
      · rw [if_pos ⟨rfl, rfl, e⟩]
      · rw [if_neg (fun z => e z.2.2)]
        exact i2 i (by rcases Nat.lt_succ_iff_lt_or_eq.mp hi with h9 | rfl; exact h9; exact absurd rfl e)
    · show (if c = 3 ∧ j = 1 ∧ b = F m then 0 else zz_fI (pa_fg h F m) c j b) = _
      rw [if_neg (fun z => hn ⟨z.1, z.2.1⟩)]; exact i3 c j b hn
    · show (if 3 = 3 ∧ 1 = 1 ∧ F i = F m then 0 else zz_fI (pa_fg h F m) 3 1 (F i)) = _
      by_cases e : F i = F m
      · rw [if_pos ⟨rfl, rfl, e⟩]
      · rw [if_neg (fun z => e z.2.2)]
        exact i4 i (by rcases Nat.lt_succ_iff_lt_or_eq.mp hi with h9 | rfl; exact h9; exact absurd rfl e)
theorem CA_cl (hC : CA h x m27 A f σ κ LB LN sw t2) : CA (pa_fg h (pa_l h (t_pa h x)) 4) x m27 (aCl A) f σ κ LB LN sw t2 := by
  obtain ⟨c1, c2, c3, c4, c5, c6, c7, c8, c9⟩ := hC
  obtain ⟨q1, q2, q3, q4⟩ := pa_fg_R h (pa_l h (t_pa h x)) 4
  refine ⟨c1, c2, c3, c4, fun l hl => ⟨(q2 l hl).trans (oS_n (show (aCl A) 22 (l + 1) = -1 from if_pos ⟨rfl, by omega⟩)).symm, (q4 l hl).trans ?_, fun i hi => ?_⟩, c6, c7, c8, c9⟩
  · show (0 : Int32) = (if 23 = 22 ∧ l + 1 < 5 then -1 else if 23 = 23 ∧ l + 1 < 5 then 0 else A 23 (l + 1))
    rw [if_neg (fun z => absurd z.1 (by decide)), if_pos ⟨rfl, by omega⟩]
  · exfalso
    have : aC (aCl A) (l + 1) = 0 := by
      show (if 23 = 22 ∧ l + 1 < 5 then (-1 : Int32) else if 23 = 23 ∧ l + 1 < 5 then 0 else A 23 (l + 1)).toNatClampNeg = 0
      rw [if_neg (fun z => absurd z.1 (by decide)), if_pos ⟨rfl, by omega⟩]; rfl
    omega
theorem aM_cl (hM : aM A f n sw t2) : aM (aCl A) f n sw t2 := by
  obtain ⟨m1, m2, m3, m4, m5, m6, m7, m8, m9, m10, m11, m12, m13⟩ := hM
  have e23 : ∀ l, l < 5 → (aCl A) 23 l = 0 := fun l hl => by
    show (if 23 = 22 ∧ l < 5 then (-1 : Int32) else if 23 = 23 ∧ l < 5 then 0 else A 23 l) = 0
    rw [if_neg (fun z => absurd z.1 (by decide)), if_pos ⟨rfl, hl⟩]
  refine ⟨m1, m2, m3, fun l hl => ?_, m5, m6, m7, m8, fun l l1 l5 => Or.inl ⟨?_, e23 l l5⟩, m10, m11, m12, m13⟩
  · have ec : aC (aCl A) l = 0 := by rw [aC, e23 l hl]; rfl
    rw [ec, e23 l hl]
    exact ⟨rfl, by omega, fun k hk => by omega⟩
  · show (if 22 = 22 ∧ l < 5 then (-1 : Int32) else _) = -1
    rw [if_pos ⟨rfl, l5⟩]
end CP
theorem ok_clearPath : st_clearPath Rel := fun n h x r u _ hR _ => by
  obtain ⟨hok, hap, hu, σ, κ, LB, LN, sw, t2, hM, hC⟩ := hR
  refine ⟨_, ⟨x, rfl, CA_twf hM hC, rfl, _, ⟨r, rfl, hok, hap, rfl, ?_⟩, fun _ _ z => z⟩, fun _ _ z => z⟩
  have hC1 := CA_cl (CA_h0 hC)
  obtain ⟨-, -, q3, -⟩ := pa_fg_R (t_h0 h x) (pa_l h (t_pa h x)) 4
  have eq0 : mQ (pa_fg (t_h0 h x) (pa_l h (t_pa h x)) 4) r = mQ h r := by
    funext i
    show (if i = 0 then 0 else zz_fI (pa_fg (t_h0 h x) (pa_l h (t_pa h x)) 4) 7 i r) = _
    rw [q3 7 i r (fun z => absurd z.1 (by decide))]; rfl
  have ebg : mQ (mo_cl (mo_bg (pa_fg (t_h0 h x) (pa_l h (t_pa h x)) 4) r) r 5) r = qU (mQ h r) 30 (-1) := by
    have := mQ_bg (pa_fg (t_h0 h x) (pa_l h (t_pa h x)) 4) r
    rw [eq0] at this
    exact this
  refine Rel_mk (h1 := pa_fg (t_h0 h x) (pa_l h (t_pa h x)) 4) hok hap hu (mA_cl (h := mo_bg (pa_fg (t_h0 h x) (pa_l h (t_pa h x)) 4) r) hap) ebg (aM_up (aM_cl (aM_h0 hM))) hC1 rfl rfl rfl (mo_bg_c _ _) (fun b m hb hm h27 => ?_)
  have hn := mo_not (h := h) hok hb hm h27
  funext i
  show (if b = mf h r 22 ∧ i < 5 then -1 else if b = mf h r 23 ∧ i < 5 then 0 else zz_aI h b i) = zz_aI h b i
  rw [if_neg (fun z => hn 22 rfl z.1.symm), if_neg (fun z => hn 23 rfl z.1.symm)]
section TK
variable {h : zz_H} {x m27 n r u : Nat} {f : aF} {σ κ : Nat → Nat} {LB LN : List Nat} {sw t2 : Nat}
/-- declared types -/
theorem c_tk (hk : c_kd h x (mA h r) κ) (t : Int32) : (¬ mo_ty h r t ∧ t_k h x t = none) ∨ (mo_ty h r t ∧ ∃ j, j < 8 ∧ t = nI j ∧ t.toNatClampNeg = j ∧ mA h r 1 j ≠ 0 ∧ t_k h x t = some (κ j)) := by
  by_cases hb : 0 ≤ t ∧ t < 8
  · obtain ⟨j8, ej⟩ := nI_in9 (n := 8) rfl (by decide) (Int32.not_lt.mpr hb.1) hb.2
    have hq := hk.1 _ j8
    by_cases e : mA h r 1 t.toNatClampNeg = 0
    · exact Or.inl ⟨fun z => z.2.2 e, by rw [t_k, if_pos hb]; exact hq.1 e⟩
    · exact Or.inr ⟨⟨hb.1, hb.2, e⟩, _, j8, ej, rfl, e, by rw [t_k, if_pos hb]; exact (hq.2 e).1⟩
  · exact Or.inl ⟨fun z => hb ⟨z.1, z.2.1⟩, by rw [t_k, if_neg hb]⟩
theorem c_num (hM : aM (mA h r) (mQ h r) n sw t2) (hC : CA h x m27 (mA h r) (mQ h r) σ κ LB LN sw t2) (hn : n < 2 ^ 31) : zz_fI h 0 7 x ≠ 0 ↔ ¬ zz_fI h 7 12 r ≤ 0 := by
  obtain ⟨k, k1, k2, -⟩ := hM.2.2.2.2.2.2.1
  have e : zz_fI h 7 12 r = nI k := k2
  rw [hC.2.2.2.2.2.2.2.2.1, e, show mQ h r 12 = nI k from k2]
  have h0 : (nI k ≤ 0) ↔ k ≤ 0 := nI_leI (a := k) (b := 0) (by omega) (by omega)
  rw [h0]
  constructor
  · intro z w; exact z (by rw [show k = 0 by omega]; rfl)
  · intro z w; exact z (by have := nI_eqI9 (a := k) (b := 0) (by omega) (by omega) w; omega)
theorem c_void (hM : aM (mA h r) (mQ h r) n sw t2) (h0 : zz_fI h 7 12 r ≤ 0) (hn : n < 2 ^ 31) : ∀ s, ¬ aLive (mA h r) s := fun s ls => by
  obtain ⟨k, k1, k2, k3⟩ := hM.2.2.2.2.2.2.1
  obtain ⟨j, j1, j2⟩ := k3 s ls
  have e : zz_fI h 7 12 r = nI k := k2
  rw [e] at h0
  have := (nI_leI (a := k) (b := 0) (by omega) (by omega)).mp h0
  have hj : j = 0 := by omega
  have := ls.2
  rw [j2, hj] at this
  exact absurd this (by decide)
end TK
theorem ok_second : st_second Rel := fun n h x r u p1 p2 hn hR _ => by
  obtain ⟨hok, hap, hu, σ, κ, LB, LN, sw, t2, hM, hC⟩ := hR
  have tok := hC.1.1
  have bad : ∀ k : Int32, Rel (n + 1) (zz_pI (mo_bg (t_h0 h x) r) 7 0 r k) x r u := fun k => Rel_mk (h1 := t_h0 h x) hok hap hu rfl ((mQ_0 _ _ _).trans (mQ_bg _ _)) (aM_up (aM_h0 hM)) (CA_h0 hC) rfl rfl rfl (fun c hc => (zz_pI_c _ _ _ _ c hc).trans (mo_bg_c _ _ c hc)) (fun _ _ _ _ _ => rfl)
  have th : ∀ k : Int32, zz_fI (zz_pI (mo_bg (t_h0 h x) r) 7 0 r k) 7 0 r = k := fun k => if_pos ⟨rfl, rfl, rfl⟩
  have M1 : mo_s1 h r p1 p2 → zz_up T_M_second [zz_r 7 (some r), zz_i p1, zz_i p2] (t_h0 h x) (fun w h2 => w = none ∧ zz_fI h2 7 0 r = 1 ∧ Rel (n + 1) h2 x r u) := fun z => ⟨_, ⟨r, p1, p2, rfl, hok, fun _ => ⟨rfl, th 1, bad 1⟩, fun w => absurd z w⟩, fun _ _ z => z⟩
  rcases c_tk hC.2.2.1 p1 with ⟨hno, hk⟩ | ⟨hty, j, j8, ej, ej2, dj, hk⟩
  · exact ⟨_, ⟨x, p1, p2, rfl, Or.inr ⟨x, p1, p2, rfl, tok, fun _ => Or.inl ⟨rfl, 1, rfl, M1 (Or.inl hno)⟩, fun k z => (by rw [hk] at z; cases z)⟩⟩, fun _ _ z => z⟩
  · have hk1 := ((hC.2.2.1.1 j j8).2 dj).2
    by_cases hab : mA h r 2 j = -1
    · have e1 : zz_fR h 1 1 (κ j) = none := by rw [hk1.2.2.1, oS_n hab]
      refine ⟨_, ⟨x, p1, p2, rfl, Or.inr ⟨x, p1, p2, rfl, tok, fun z => (by rw [hk] at z; cases z), fun k z => ?_⟩⟩, fun _ _ z => z⟩
      rw [hk] at z
      cases z
      exact ⟨fun _ => Or.inl ⟨rfl, 1, rfl, M1 (Or.inr (Or.inl (by rw [ej2]; exact hab)))⟩, fun q z => (by rw [e1] at z; cases z)⟩
    · have e1 : ∃ q, zz_fR h 1 1 (κ j) = some q := by rw [hk1.2.2.1, oS, if_neg hab]; exact ⟨_, rfl⟩
      obtain ⟨q9, e1⟩ := e1
      have hwd : mo_hw h r p1 p2 ↔ 0 ≤ p2 ∧ p2 < zz_fI h 1 3 (κ j) := by rw [mo_hw, ej2, hk1.2.2.2.2.1]; rfl
      by_cases hw : 0 ≤ p2 ∧ p2 < zz_fI h 1 3 (κ j)
      · have hnos : ¬ mo_s1 h r p1 p2 := by
          rintro (z | z | z)
          · exact z hty
          · rw [ej2] at z; exact hab z
          · exact z (hwd.mpr hw)
        by_cases h0 : zz_fI h 7 12 r ≤ 0
        · have h0c : zz_fI h 0 7 x = 0 := Classical.byContradiction (fun z => (c_num hM hC (by omega)).mp z h0)
          refine ⟨_, ⟨x, p1, p2, rfl, Or.inl ⟨x, p1, p2, rfl, tok, fun z => (by rw [hk] at z; cases z), fun k z => ?_⟩⟩, fun _ _ z => z⟩
          rw [hk] at z
          cases z
          refine ⟨fun z => (by rw [e1] at z; cases z), fun q z => ⟨fun w => absurd hw w, fun _ => ⟨fun w => absurd h0c w, fun _ => ⟨rfl, 0, rfl, _, ⟨r, p1, p2, rfl, hok, fun w => absurd w hnos, fun _ => ⟨fun w => absurd h0 w, fun _ => ⟨rfl, if_pos ⟨rfl, rfl, rfl⟩, ?_⟩⟩⟩, fun _ _ z => z⟩⟩⟩⟩
          obtain ⟨-, -, -, -, ln, l1, l2, l3, -⟩ := hM.2.1 j j8 dj
          have hw2 : p2 < nI ln := by rw [← l3]; exact hk1.2.2.2.2.1 ▸ hw.2
          obtain ⟨w4, ew⟩ := nI_in9 (n := ln) rfl (by omega) (Int32.not_lt.mpr hw.1) hw2
          have hvoid := c_void hM h0 (by omega)
          obtain ⟨c1, c2, c3, c4, c5, c6, c7, c8, r1, r2, r3, r4, r5, r6⟩ := CA_h0 hC
          obtain ⟨m1, m2, m3, m4, m5, m6, m7, m8, m9, m10, m11, m12, m13⟩ := aM_h0 hM
          have hLN : LN = [] := List.eq_nil_iff_forall_not_mem.mpr (fun e he => hvoid e ((c7.2.2.2.2.2.1 e).mp he))
          have hC1 : CA (zz_pI (zz_pR (t_h0 h x) 5 3 (t_od h x) (some (κ j))) 5 4 (t_od h x) p2) x (mf h r 27) (mA h r) (qU (qU (qU (mQ h r) 30 (-1)) 9 p1) 10 p2) σ κ LB LN p2.toNatClampNeg j := by
            refine ⟨c1, c2, c3, c4, c5, c6, ⟨c7.1, c7.2.1, c7.2.2.1, c7.2.2.2.1, c7.2.2.2.2.1, c7.2.2.2.2.2.1, c7.2.2.2.2.2.2.1, fun v _ => by rw [hLN]; exact List.Pairwise.nil⟩, c8, r1, (if_pos ⟨rfl, rfl, rfl⟩ : zz_fR (zz_pI (zz_pR (t_h0 h x) 5 3 (t_od h x) (some (κ j))) 5 4 (t_od h x) p2) 5 3 (t_od h x) = some (κ j)).trans (oS_s (by omega) ej).symm, fun _ => if_pos ⟨rfl, rfl, rfl⟩, r4, r5, r6⟩
          have hM1 : aM (mA h r) (qU (qU (qU (mQ h r) 30 (-1)) 9 p1) 10 p2) n p2.toNatClampNeg j := by
            refine ⟨m1, m2, m3, m4, m5, m6, m7, ⟨by omega, m8.2.1, Or.inr ⟨j8, dj, ej, ew, ln, l2, l3, w4⟩⟩, m9, m10, m11, m12, m13⟩
          exact Rel_mk (h1 := zz_pI (zz_pR (t_h0 h x) 5 3 (t_od h x) (some (κ j))) 5 4 (t_od h x) p2) hok hap hu rfl ((mQ_p _ _ (by decide) _).trans (by rw [mQ_p _ _ (by decide), mQ_bg]; rfl)) (aM_up hM1) hC1 rfl rfl rfl (fun c hc => (zz_pI_c _ _ _ _ c hc).trans ((zz_pI_c _ _ _ _ c hc).trans (mo_bg_c _ _ c hc))) (fun _ _ _ _ _ => rfl)
        · have h0c := (c_num hM hC (by omega)).mpr h0
          refine ⟨_, ⟨x, p1, p2, rfl, Or.inr ⟨x, p1, p2, rfl, tok, fun z => (by rw [hk] at z; cases z), fun k z => ?_⟩⟩, fun _ _ z => z⟩
          rw [hk] at z
          cases z
          exact ⟨fun z => (by rw [e1] at z; cases z), fun q z => ⟨fun w => absurd hw w, fun _ => ⟨fun _ => Or.inr ⟨rfl, 2, rfl, _, ⟨r, p1, p2, rfl, hok, fun w => absurd w hnos, fun _ => ⟨fun _ => ⟨rfl, th 2, bad 2⟩, fun w => absurd w h0⟩⟩, fun _ _ z => z⟩, fun w => absurd w h0c⟩⟩⟩
      · refine ⟨_, ⟨x, p1, p2, rfl, Or.inr ⟨x, p1, p2, rfl, tok, fun z => (by rw [hk] at z; cases z), fun k z => ?_⟩⟩, fun _ _ z => z⟩
        rw [hk] at z
        cases z
        exact ⟨fun z => (by rw [e1] at z; cases z), fun q z => ⟨fun _ => Or.inl ⟨rfl, 1, rfl, M1 (Or.inr (Or.inr (fun w => hw (hwd.mp w))))⟩, fun w => absurd w hw⟩⟩
/-! a type is declared -/
def aN (A : aA) (t : Nat) (pa lv ln sq u la : Int32) : aA := aU (aU (aU (aU (aU (aU (aU A 1 t 1) 2 t pa) 3 t lv) 4 t ln) 5 t sq) 6 t u) 7 t la
def kU (κ : Nat → Nat) (t k : Nat) : Nat → Nat := fun i => if i = t then k else κ i
theorem kU_eq (κ : Nat → Nat) (t k : Nat) : kU κ t k t = k := if_pos rfl
theorem kU_ne {κ : Nat → Nat} {t k i : Nat} (h : i ≠ t) : kU κ t k i = κ i := if_neg h
theorem oS_kU {κ : Nat → Nat} {t k : Nat} {v : Int32} (h : v = -1 ∨ ∃ p, p < 60 ∧ v = nI p ∧ p ≠ t) : oS (kU κ t k) v = oS κ v := by
  rcases h with h | ⟨p, p6, h, hne⟩
  · rw [oS_n h, oS_n h]
  · rw [oS_s p6 h, oS_s p6 h, kU_ne hne]
section TY
variable {h g : zz_H} {x m27 n r u : Nat} {A : aA} {f : aF} {σ κ : Nat → Nat} {LB LN : List Nat} {sw t2 t : Nat} {pa lv ln sq un la : Int32}
theorem aN_ne {i : Nat} (hi : i ≠ t) (j : Nat) : aN A t pa lv ln sq un la j i = A j i := by
  unfold aN aU
  rw [if_neg (fun z => hi z.2), if_neg (fun z => hi z.2), if_neg (fun z => hi z.2), if_neg (fun z => hi z.2), if_neg (fun z => hi z.2), if_neg (fun z => hi z.2), if_neg (fun z => hi z.2)]
theorem aN_1 : aN A t pa lv ln sq un la 1 t = 1 := aU_eq A 1 t 1
theorem aN_2 : aN A t pa lv ln sq un la 2 t = pa := aU_eq (aU A 1 t 1) 2 t pa
theorem aN_3 : aN A t pa lv ln sq un la 3 t = lv := aU_eq (aU (aU A 1 t 1) 2 t pa) 3 t lv
theorem aN_4 : aN A t pa lv ln sq un la 4 t = ln := aU_eq (aU (aU (aU A 1 t 1) 2 t pa) 3 t lv) 4 t ln
theorem aN_5 : aN A t pa lv ln sq un la 5 t = sq := aU_eq (aU (aU (aU (aU A 1 t 1) 2 t pa) 3 t lv) 4 t ln) 5 t sq
theorem aN_6 : aN A t pa lv ln sq un la 6 t = un := aU_eq (aU (aU (aU (aU (aU A 1 t 1) 2 t pa) 3 t lv) 4 t ln) 5 t sq) 6 t un
theorem aN_7 : aN A t pa lv ln sq un la 7 t = la := aU_eq _ 7 t la
/-- what the new type's parent is -/
def aPar (A : aA) (pa lv : Int32) : Prop := (pa = -1 ∧ lv = 1) ∨ ∃ p, p < 8 ∧ A 1 p ≠ 0 ∧ pa = nI p ∧ aT A p < 4 ∧ lv = nI (aT A p + 1)
theorem aM_ty (hM : aM A f n sw t2) (hv : ∀ s, ¬ aLive A s) (t8 : t < 8) (d0 : A 1 t = 0) (hp : aPar A pa lv) {l9 : Nat} (hl1 : 1 ≤ l9) (hl4 : l9 ≤ 4) (eln : ln = nI l9) (hsq : sq = -1 ∨ ∃ j, j < l9 ∧ sq = nI j) : aM (aN A t pa lv ln sq un la) f n sw t2 := by
  obtain ⟨m1, m2, m3, m4, m5, m6, m7, m8, m9, m10, m11, m12, m13⟩ := hM
  have dn : ∀ i, A 1 i ≠ 0 → i ≠ t := fun i di e => di (by rw [e]; exact d0)
  have eT : ∀ i, i ≠ t → aT (aN A t pa lv ln sq un la) i = aT A i := fun i hi => by rw [aT, aN_ne hi]; rfl
  refine ⟨fun s ls => absurd ls (hv s), fun i i8 di => ?_, fun s ls => absurd ls (hv s), m4, fun a b ha => absurd ha (hv a), m6, m7, ⟨m8.1, m8.2.1, ?_⟩, fun l l1 l5 => ?_, fun i i8 => ?_, fun s ls => absurd ls (hv s), m12, m13.1, fun s ls => absurd ls (hv s)⟩
  · by_cases e : i = t
    · subst e
      rcases hp with ⟨e1, e2⟩ | ⟨p, p8, dp, e1, e2, e3⟩
      · have eT9 : aT (aN A i pa lv ln sq un la) i = 1 := by rw [aT, aN_3, e2]; rfl
        rw [eT9, aN_3, aN_2, aN_4, aN_5]
        exact ⟨e2, by omega, by omega, Or.inl ⟨e1, rfl⟩, l9, hl1, hl4, eln, hsq⟩
      · have eT9 : aT (aN A i pa lv ln sq un la) i = aT A p + 1 := by rw [aT, aN_3, e3]; exact nI_clamp (by omega)
        rw [eT9, aN_3, aN_2, aN_4, aN_5]
        exact ⟨e3, by omega, by omega, Or.inr ⟨p, p8, by rw [aN_ne (dn p dp)]; exact dp, e1, by rw [eT p (dn p dp)]⟩, l9, hl1, hl4, eln, hsq⟩
    · rw [aN_ne e] at di
      obtain ⟨q1, q2, q3, q4, q5⟩ := m2 i i8 di
      rw [eT i e, aN_ne e, aN_ne e, aN_ne e, aN_ne e]
      refine ⟨q1, q2, q3, q4.imp id (fun ⟨p, z1, z2, z3, z4⟩ => ⟨p, z1, by rw [aN_ne (dn p z2)]; exact z2, z3, by rw [eT p (dn p z2)]; exact z4⟩), q5⟩
  · refine m8.2.2.imp id (fun ⟨z1, z2, z3, z4, z5⟩ => ⟨z1, by rw [aN_ne (dn _ z2)]; exact z2, z3, z4, by rw [aN_ne (dn _ z2)]; exact z5⟩)
  · refine (m9 l l1 l5).imp id (fun ⟨t', ln', z1, z2, z3, z4, z5, z6, z7⟩ => ⟨t', ln', z1, by rw [aN_ne (dn _ z2)]; exact z2, z3, by rw [eT _ (dn _ z2)]; exact z4, z5, by rw [aN_ne (dn _ z2)]; exact z6, z7⟩)
  · show A 8 i = -1 ∨ _
    refine (m10 i i8).imp id (fun ⟨z1, v, v8, z2, z3, z4, z5, z6, z7⟩ => ⟨by rw [aN_ne (dn _ z1)]; exact z1, v, v8, by rw [aN_ne (dn _ z2)]; exact z2, z3, z4, by rw [aN_ne (dn _ z1), aN_ne (dn _ z2)]; exact z5, by rw [aN_ne (dn _ z1), aN_ne (dn _ z2)]; exact z6, by rw [aN_ne (dn _ z1)]; exact z7⟩)
theorem ty_tg {k b : Nat} (hb : b ≠ k) : zz_tg (ty_nw h x k (nI t) pa ln sq un la) b = zz_tg h b := if_neg hb
theorem ty_tk {k : Nat} : zz_tg (ty_nw h x k (nI t) pa ln sq un la) k = some (1, 0) := if_pos rfl
set_option maxHeartbeats 4000000 in
theorem CA_ty (hM : aM A f n sw t2) (hC : CA h x m27 A f σ κ LB LN sw t2) (hv : ∀ s, ¬ aLive A s) (t8 : t < 8) (d0 : A 1 t = 0) {k : Nat} (hk : zz_tg h k = none) (hpk : t_k h x pa = oS κ pa) (hp : aPar A pa (ty_lv h (t_k h x pa))) : CA (ty_nw h x k (nI t) pa ln sq un la) x m27 (aN A t pa (ty_lv h (t_k h x pa)) ln sq un la) (qU f 30 (-1)) σ (kU κ t k) [] [] sw t2 := by
  obtain ⟨m1, m2, m3, m4, m5, m6, m7, m8, m9, m10, m11, m12, m13⟩ := hM
  obtain ⟨c1, c2, c3, c4, c5, c6, c7, c8, r1, r2, r3, r4, r5, r6⟩ := CA_h0 hC
  have dn : ∀ i, A 1 i ≠ 0 → i ≠ t := fun i di e => di (by rw [e]; exact d0)
  have ne : ∀ {b : Nat} {q : Nat × Nat}, zz_tg h b = some q → b ≠ k := fun hb z => by rw [z, hk] at hb; cases hb
  have tg : ∀ {b : Nat} {q : Nat × Nat}, zz_tg h b = some q → zz_tg (ty_nw h x k (nI t) pa ln sq un la) b = some q := fun hb => (ty_tg (ne hb)).trans hb
  have κk : ∀ i, i < 8 → A 1 i ≠ 0 → κ i ≠ k := fun i i8 di => ne ((c3.1 i i8).2 di).2.1
  have kd8 : zz_tg h (t_kd h x) = some (101, 8) := c1.1.2.2.2.2.2.1
  have hLB : LB = [] := List.eq_nil_iff_forall_not_mem.mpr (fun e he => hv e ((c7.2.2.2.2.1 e).mp he))
  have opar : pa = -1 ∨ ∃ p, p < 60 ∧ pa = nI p ∧ p ≠ t := by
    rcases hp with ⟨e1, -⟩ | ⟨p, p8, dp, e1, -⟩
    · exact Or.inl e1
    · exact Or.inr ⟨p, by omega, e1, dn p dp⟩
  obtain ⟨⟨a1, a2, a3, a4, a5, a6, a7⟩, ⟨b1, b2, b3⟩, b4, b5, b6, b7, b8, b9⟩ := c1
  have nkd : pa_a h (t_pa h x) ≠ t_kd h x := fun z => by
    have b2 : zz_tg h (pa_a h (t_pa h x)) = some (103, 4) := b2
    rw [z, kd8] at b2; cases b2
  have eaR : ∀ i, zz_aR (ty_nw h x k (nI t) pa ln sq un la) (pa_a h (t_pa h x)) i = zz_aR h (pa_a h (t_pa h x)) i := fun i => if_neg (fun z => nkd z.1)
  have epl : ∀ i, pa_l (ty_nw h x k (nI t) pa ln sq un la) (t_pa (ty_nw h x k (nI t) pa ln sq un la) x) i = pa_l h (t_pa h x) i := fun i => congrArg (fun z => z.getD 0) (eaR i)
  have b4' : pl_ap (ty_nw h x k (nI t) pa ln sq un la) (t_pa (ty_nw h x k (nI t) pa ln sq un la) x) := fun i j hi hj => by
    rw [epl i, epl j]; exact b4 i j hi hj
  refine ⟨⟨⟨a1, a2, a3, a4, a5, tg a6, tg a7⟩, ⟨b1, tg b2, fun i hi => ?_⟩, b4', b5, b6, tg b7, tg b8, b9⟩, ?_, ⟨fun i i8 => ?_, fun k' m hk' => ?_⟩, ⟨fun a m ha => ?_, fun a m ha => ?_, fun s ls => absurd ls (hv s)⟩, fun l hl => ?_, c6, ⟨?_, rfl, fun i e he => (by simp at he), fun i e he => (by simp at he), fun e => ⟨fun z => (by cases z), fun z => absurd z (hv e)⟩, fun e => ⟨fun z => (by cases z), fun z => absurd z (hv e)⟩, List.Pairwise.nil, fun _ _ => List.Pairwise.nil⟩, c8, r1, ?_, r3, r4, r5, r6⟩
  · obtain ⟨q1, q2, q3, q4, q5, q6, q7⟩ := b3 i hi
    rw [epl i]
    exact ⟨(eaR i).trans q1, q2, q3, q4, tg q5, tg q6, tg q7⟩
  · obtain ⟨q1, q2, q3⟩ := c2
    have back : ∀ a m, zz_tg (ty_nw h x k (nI t) pa ln sq un la) a = some (2, m) → zz_tg h a = some (2, m) := fun a m ha => by
      by_cases e : a = k
      · rw [e, ty_tk] at ha; cases ha
      · rw [ty_tg e] at ha; exact ha
    exact ⟨q1, fun a m ha => q2 a m (back a m ha), fun a b m m' ha hb => q3 a b m m' (back a m ha) (back b m' hb)⟩
  · by_cases e : i = t
    · subst e
      refine ⟨fun z => by rw [aN_1] at z; exact absurd z (by decide), fun _ => ⟨?_, ?_⟩⟩
      · rw [kU_eq]
        show (if t_kd h x = t_kd h x ∧ i = (nI i).toNatClampNeg then some k else _) = some k
        exact if_pos ⟨rfl, (nI_clamp (by omega)).symm⟩
      · have h8 : A 8 i = -1 := (m10 i i8).resolve_right (fun z => z.1 d0)
        unfold c_k1
        rw [kU_eq, aN_2, aN_3, aN_4, aN_5, aN_6, aN_7, oS_kU opar, ← hpk]
        refine ⟨ty_tk, ?_, ?_, ?_, ?_, ?_, ?_, ?_, ?_⟩
        · exact if_pos ⟨rfl, rfl, rfl⟩
        · exact if_pos ⟨rfl, rfl, rfl⟩
        · exact if_pos ⟨rfl, rfl, rfl⟩
        · exact if_pos ⟨rfl, rfl, rfl⟩
        · exact if_pos ⟨rfl, rfl, rfl⟩
        · exact if_pos ⟨rfl, rfl, rfl⟩
        · exact if_pos ⟨rfl, rfl, rfl⟩
        · show zz_fR (zz_new (t_h0 h x) 1 k) 1 7 k = oS (kU κ i k) (A 8 i)
          rw [oS_n h8]; exact if_pos ⟨rfl, rfl⟩
    · rw [aN_ne e]
      obtain ⟨q1, q2⟩ := c3.1 i i8
      have kdi : zz_aR (ty_nw h x k (nI t) pa ln sq un la) (t_kd h x) i = zz_aR h (t_kd h x) i := if_neg (fun z => e (z.2.trans (nI_clamp (by omega))))
      refine ⟨fun z => kdi.trans (q1 z), fun di => ?_⟩
      obtain ⟨z0, z1, z2, z3, z4, z5, z6, z7, z8, z9⟩ := q2 di
      have hne := κk i i8 di
      rw [kU_ne e]
      refine ⟨kdi.trans z0, ?_⟩
      unfold c_k1
      rw [kU_ne e, aN_ne e, aN_ne e, aN_ne e, aN_ne e, aN_ne e, aN_ne e, aN_ne e]
      have rI : ∀ j, zz_fI (ty_nw h x k (nI t) pa ln sq un la) 1 j (κ i) = zz_fI h 1 j (κ i) := fun j =>
        (if_neg (fun z => hne z.2.2)).trans ((if_neg (fun z => hne z.2.2)).trans ((if_neg (fun z => hne z.2.2)).trans ((if_neg (fun z => hne z.2.2)).trans ((if_neg (fun z => hne z.2.2)).trans ((if_neg (fun z => hne z.2.2)).trans (if_neg (fun z => hne z.2)))))))
      have rR : ∀ j, zz_fR (ty_nw h x k (nI t) pa ln sq un la) 1 j (κ i) = zz_fR h 1 j (κ i) := fun j =>
        (if_neg (fun z => hne z.2.2)).trans (if_neg (fun z => hne z.2))
      rw [rI, rI, rI, rI, rI, rI, rR, rR, oS_kU, oS_kU]
      · exact ⟨tg z1, z2, z3, z4, z5, z6, z7, z8, z9⟩
      · refine (m10 i i8).imp id (fun ⟨_, v, v8, w2, w3, _⟩ => ⟨v, by omega, w3, dn v w2⟩)
      · obtain ⟨-, -, -, w, -⟩ := m2 i i8 di
        exact w.imp (fun z => z.1) (fun ⟨p, w1, w2, w3, _⟩ => ⟨p, by omega, w3, dn p w2⟩)
  · by_cases e : k' = k
    · exact ⟨t, t8, by rw [aN_1]; decide, by rw [kU_eq]; exact e⟩
    · rw [ty_tg e] at hk'
      obtain ⟨i, i8, di, ei⟩ := c3.2 k' m hk'
      exact ⟨i, i8, by rw [aN_ne (dn i di)]; exact di, by rw [kU_ne (dn i di)]; exact ei⟩
  · by_cases e : a = k
    · rw [e, ty_tk] at ha; cases ha
    · rw [ty_tg e] at ha
      obtain ⟨q1, q2, q3, q4⟩ := c4.1 a m ha
      exact ⟨q1, q2, tg q3, q4⟩
  · by_cases e : a = k
    · rw [e, ty_tk] at ha; cases ha
    · rw [ty_tg e] at ha
      obtain ⟨i, i8, di, ei⟩ := c4.2.1 a m ha
      exact ⟨i, i8, by rw [aN_ne (dn i di)]; exact di, by rw [kU_ne (dn i di)]; exact ei⟩
  · obtain ⟨q1, q2, q3⟩ := c5 l hl
    rw [epl l]
    refine ⟨?_, q2, q3⟩
    show _ = oS (kU κ t k) (A 22 (l + 1))
    rw [oS_kU]
    · exact q1
    · exact (m9 (l + 1) (by omega) (by omega)).imp (fun z => z.1) (fun ⟨t', _, w1, w2, w3, _⟩ => ⟨t', by omega, w3, dn t' w2⟩)
  · have := c7.1
    rw [hLB] at this; exact this
  · rw [oS_kU]
    · exact r2
    · exact m8.2.2.imp (fun z => z.1) (fun ⟨w1, w2, w3, _⟩ => ⟨t2, by omega, w3, dn t2 w2⟩)
end TY
theorem i32_m1 {s : Int32} (h : s ≠ -1) : -1 ≤ s ↔ 0 ≤ s := by
  have e1 : (-1 : Int32).toInt = -1 := by decide +kernel
  have e0 : (0 : Int32).toInt = 0 := by decide +kernel
  rw [Int32.le_iff_toInt_le, Int32.le_iff_toInt_le, e1, e0]
  have : s.toInt ≠ -1 := fun z => h (Int32.toInt_inj.mp (z.trans e1.symm))
  omega
section TZ
variable {h g : zz_H} {x n r u : Nat} {σ κ : Nat → Nat} {LB LN : List Nat} {sw t2 : Nat}
theorem ty_same (hM : aM (mA h r) (mQ h r) n sw t2) (hC : CA h x (mf h r 27) (mA h r) (mQ h r) σ κ LB LN sw t2) (t pa ln sq : Int32) : ty_bad h x t pa ln sq ↔ mo_y1 h r t pa ln sq := by
  have hpar : (¬ (pa ≠ -1 ∧ t_k h x pa = none) ∧ ¬ (∃ k, t_k h x pa = some k ∧ ¬ zz_fI h 1 2 k < 4)) ↔ ((pa = -1 ∨ mo_ty h r pa) ∧ ¬ (pa ≠ -1 ∧ ma h r 3 pa.toNatClampNeg = 4)) := by
    rcases c_tk hC.2.2.1 pa with ⟨hno, hk⟩ | ⟨hty, j, j8, ej, ej2, dj, hk⟩
    · rw [hk]
      constructor
      · rintro ⟨z1, -⟩
        have : pa = -1 := Classical.byContradiction (fun w => z1 ⟨w, rfl⟩)
        exact ⟨Or.inl this, fun z => z.1 this⟩
      · rintro ⟨z1, -⟩
        have : pa = -1 := z1.resolve_right hno
        exact ⟨fun z => z.1 this, fun ⟨k, z, _⟩ => by cases z⟩
    · obtain ⟨w1, w2, w3, -⟩ := hM.2.1 j j8 dj
      have hne : pa ≠ -1 := by rw [ej]; exact nI_neg (by omega)
      have e3 : zz_fI h 1 2 (κ j) = mA h r 3 j := ((hC.2.2.1.1 j j8).2 dj).2.2.2.2.1
      have e4 : ¬ zz_fI h 1 2 (κ j) < 4 ↔ ma h r 3 pa.toNatClampNeg = 4 := by
        rw [e3, ej2]
        show ¬ mA h r 3 j < 4 ↔ mA h r 3 j = 4
        rw [w1]
        constructor
        · intro z
          have : ¬ aT (mA h r) j < 4 := fun w => z (nI_lt (b := 4) w (by omega))
          rw [show aT (mA h r) j = 4 by omega]; rfl
        · intro z w
          rw [z] at w; exact absurd w (by decide)
      rw [hk]
      constructor
      · rintro ⟨-, z2⟩
        exact ⟨Or.inr hty, fun z => z2 ⟨κ j, rfl, e4.mpr z.2⟩⟩
      · rintro ⟨-, z2⟩
        refine ⟨fun z => (by cases z.2), fun ⟨k, z, w⟩ => ?_⟩
        cases z
        exact z2 ⟨hne, e4.mp w⟩
  unfold ty_bad mo_y1 mo_gd
  constructor
  · intro z
    apply Classical.byContradiction
    intro hno
    have hg : 0 ≤ t ∧ t < 8 ∧ (pa = -1 ∨ mo_ty h r pa) ∧ 1 ≤ ln ∧ ln ≤ 4 ∧ -1 ≤ sq ∧ sq < ln := Classical.byContradiction (fun w => hno (Or.inl w))
    have hn4 : ¬ (pa ≠ -1 ∧ ma h r 3 pa.toNatClampNeg = 4) := fun w => hno (Or.inr w)
    obtain ⟨g1, g2, g3, g4, g5, g6, g7⟩ := hg
    have hq := hpar.mpr ⟨g3, hn4⟩
    rcases z with z | z | z | z | ⟨z1, z2⟩
    · exact z ⟨g1, g2⟩
    · exact hq.1 z
    · exact hq.2 z
    · exact z ⟨g4, g5⟩
    · exact z2 ⟨(i32_m1 z1).mp g6, g7⟩
  · intro z
    apply Classical.byContradiction
    intro hno
    have a1 : 0 ≤ t ∧ t < 8 := Classical.byContradiction (fun w => hno (Or.inl w))
    have a2 : ¬ (pa ≠ -1 ∧ t_k h x pa = none) := fun w => hno (Or.inr (Or.inl w))
    have a3 : ¬ (∃ k, t_k h x pa = some k ∧ ¬ zz_fI h 1 2 k < 4) := fun w => hno (Or.inr (Or.inr (Or.inl w)))
    have a4 : 1 ≤ ln ∧ ln ≤ 4 := Classical.byContradiction (fun w => hno (Or.inr (Or.inr (Or.inr (Or.inl w)))))
    have a5 : ¬ (sq ≠ -1 ∧ ¬ (0 ≤ sq ∧ sq < ln)) := fun w => hno (Or.inr (Or.inr (Or.inr (Or.inr w))))
    obtain ⟨q1, q2⟩ := hpar.mp ⟨a2, a3⟩
    have a6 : -1 ≤ sq ∧ sq < ln := by
      by_cases e : sq = -1
      · rw [e]; exact ⟨Int32.le_refl _, Int32.lt_of_lt_of_le (by decide) a4.1⟩
      · have := Classical.byContradiction (fun w => a5 ⟨e, w⟩)
        exact ⟨(i32_m1 e).mpr this.1, this.2⟩
    rcases z with z | z
    · exact z ⟨a1.1, a1.2, q1, a4.1, a4.2, a6.1, a6.2⟩
    · exact q2 z
end TZ
set_option maxHeartbeats 4000000 in
theorem ok_type : st_type Rel := fun n h x r u p1 p2 p3 p4 p5 p6 hn hR _ h5 h6 => by
  obtain ⟨hok, hap, hu, σ, κ, LB, LN, sw, t2, hM, hC⟩ := hR
  have tok := hC.1.1
  have hC0 := CA_h0 hC
  have hM0 := aM_h0 hM
  have c0 : cR h (t_h0 h x) r := cR_rf hok hap
  have hsame := ty_same hM hC p1 p2 p3 p4
  have bad : ∀ k : Int32, zz_fI (zz_pI (mo_bg (t_h0 h x) r) 7 0 r k) 7 0 r = k ∧ Rel (n + 1) (zz_pI (mo_bg (t_h0 h x) r) 7 0 r k) x r u := fun k => ⟨zz_pI_a _ _ _ _ _, Rel_of (gR_p0 (gR_bg (gR_of c0)) k) hu (aM_up hM0) hC0⟩
  by_cases hb : mo_y1 h r p1 p2 p3 p4
  · exact ⟨_, ⟨x, p1, p2, p3, p4, p5, p6, rfl, Or.inr ⟨x, p1, p2, p3, p4, p5, p6, rfl, h5, h6, tok, fun _ => Or.inl ⟨rfl, 1, rfl, _, ⟨r, p1, p2, p3, p4, p5, p6, rfl, h5, h6, hok, fun _ => ⟨rfl, bad 1⟩, fun w => absurd hb w⟩, fun _ _ z => z⟩, fun w => absurd (hsame.mpr hb) w⟩⟩, fun _ _ z => z⟩
  · have hb' : ¬ ty_bad h x p1 p2 p3 p4 := fun w => hb (hsame.mp w)
    obtain ⟨g1, g2, g3, g4, g5, g6, g7⟩ : mo_gd h r p1 p2 p3 p4 := Classical.byContradiction (fun w => hb (Or.inl w))
    have g8 : ¬ (p2 ≠ -1 ∧ ma h r 3 p2.toNatClampNeg = 4) := fun w => hb (Or.inr w)
    obtain ⟨j8, ej⟩ := nI_in9 (n := 8) rfl (by decide) (Int32.not_lt.mpr g1) g2
    have hq := hC.2.2.1.1 _ j8
    have htk : t_k h x p1 = zz_aR h (t_kd h x) p1.toNatClampNeg := if_pos ⟨g1, g2⟩
    by_cases hx2 : mo_y2 h r p1
    · have M2 : zz_up T_M_type [zz_r 7 (some r), zz_i p1, zz_i p2, zz_i p3, zz_i p4, zz_i p5, zz_i p6] (t_h0 h x) (fun w h2 => w = none ∧ zz_fI h2 7 0 r = 2 ∧ Rel (n + 1) h2 x r u) := ⟨_, ⟨r, p1, p2, p3, p4, p5, p6, rfl, h5, h6, hok, fun w => absurd w hb, fun _ => ⟨fun _ => ⟨rfl, bad 2⟩, fun w => absurd hx2 w⟩⟩, fun _ _ z => z⟩
      refine ⟨_, ⟨x, p1, p2, p3, p4, p5, p6, rfl, Or.inr ⟨x, p1, p2, p3, p4, p5, p6, rfl, h5, h6, tok, fun w => absurd w hb', fun _ => ⟨fun _ => Or.inr ⟨rfl, 2, rfl, M2⟩, fun w => ⟨fun _ => Or.inr ⟨rfl, 2, rfl, M2⟩, fun w3 => ?_⟩⟩⟩⟩, fun _ _ z => z⟩
      exfalso
      rcases hx2 with z | z
      · rw [htk, (hq.2 z).1] at w; cases w
      · exact (c_num hM hC (by omega)).mpr z w3
    · have d0 : mA h r 1 p1.toNatClampNeg = 0 := Classical.byContradiction (fun z => hx2 (Or.inl z))
      have w3 : zz_fI h 7 12 r ≤ 0 := Classical.byContradiction (fun z => hx2 (Or.inr z))
      have w4 : zz_fI h 0 7 x = 0 := Classical.byContradiction (fun z => (c_num hM hC (by omega)).mp z w3)
      have w5 : t_k h x p1 = none := htk.trans (hq.1 d0)
      have hvoid := c_void hM w3 (by omega)
      refine ⟨_, ⟨x, p1, p2, p3, p4, p5, p6, rfl, Or.inl ⟨x, p1, p2, p3, p4, p5, p6, rfl, h5, h6, tok, fun w => absurd w hb', fun _ => ⟨fun w => absurd w5 w, fun _ => ⟨fun w => absurd w4 w, fun _ k hk => ⟨rfl, 0, rfl, ?_⟩⟩⟩⟩⟩, fun _ _ z => z⟩
      generalize hj : p1.toNatClampNeg = j at *
      subst ej
      have hpk : t_k h x p2 = oS κ p2 ∧ aPar (mA h r) p2 (ty_lv h (t_k h x p2)) := by
        rcases c_tk hC.2.2.1 p2 with ⟨hno, hk⟩ | ⟨hty, i, i8, ei, ei2, di, hk⟩
        · have := g3.resolve_right hno
          rw [hk]
          exact ⟨(oS_n this).symm, Or.inl ⟨this, rfl⟩⟩
        · obtain ⟨q1, q2, q3, -⟩ := hM.2.1 i i8 di
          have e3 : zz_fI h 1 2 (κ i) = mA h r 3 i := ((hC.2.2.1.1 i i8).2 di).2.2.2.2.1
          rw [hk]
          refine ⟨(oS_s (by omega) ei).symm, Or.inr ⟨i, i8, di, ei, ?_, ?_⟩⟩
          · rcases Nat.lt_or_ge (aT (mA h r) i) 4 with z | z
            · exact z
            · exfalso
              apply g8
              refine ⟨by rw [ei]; exact nI_neg (by omega), ?_⟩
              rw [ei2]
              show mA h r 3 i = 4
              rw [q1, show aT (mA h r) i = 4 by omega]; rfl
          · show zz_fI h 1 2 (κ i) + 1 = _
            rw [e3, q1]; exact nI_1 _
      have el : ∃ l9, 1 ≤ l9 ∧ l9 ≤ 4 ∧ p3 = nI l9 := by
        obtain ⟨l5, el⟩ := nI_in9 (t := p3) (n := 5) rfl (by decide) (Int32.not_lt.mpr (Int32.le_trans (by decide) g4)) (Int32.lt_of_le_of_lt g5 (by decide))
        refine ⟨_, ?_, by omega, el⟩
        have : nI 1 ≤ nI p3.toNatClampNeg := el ▸ g4
        exact (nI_leI (by omega) (by omega)).mp this
      obtain ⟨l9, hl1, hl4, el⟩ := el
      have hsq : p4 = -1 ∨ ∃ j, j < l9 ∧ p4 = nI j := by
        by_cases e : p4 = -1
        · exact Or.inl e
        · obtain ⟨z1, z2⟩ := nI_in9 (t := p4) (n := l9) el (by omega) (Int32.not_lt.mpr ((i32_m1 e).mp g6)) g7
          exact Or.inr ⟨_, z1, z2⟩
      have hC1 := CA_ty (t := j) (ln := p3) (sq := p4) (un := p5) (la := p6) hM hC hvoid j8 d0 hk hpk.1 hpk.2
      have hM1 := aM_ty (t := j) (un := p5) (la := p6) hM0 hvoid j8 d0 hpk.2 hl1 hl4 el hsq
      have hnk : ∀ i, mo_sz i ≠ none → mf h r i ≠ k := fun i hi z => by
        cases e : mo_sz i with
        | none => exact hi e
        | some q => have := (hok i q.1 q.2 e).2; rw [z, hk] at this; cases this
      have c1 : cR h (ty_nw h x k (nI j) p2 p3 p4 p5 p6) r := ⟨fun i ty m hi => ⟨(hok i ty m hi).1, (ty_tg (hnk i (by rw [hi]; exact Option.some_ne_none _))).trans (hok i ty m hi).2⟩, hap, rfl, rfl, rfl⟩
      have hu1 : zz_tg (ty_nw h x k (nI j) p2 p3 p4 p5 p6) u = some (92, 1) := (ty_tg (fun z => by rw [z, hk] at hu; cases hu)).trans hu
      have gt := fun (lv : Int32) => gR_s (gR_s (gR_s (gR_s (gR_s (gR_s (gR_s (gR_bg (gR_of c1)) (j := 1) rfl j 1 rfl) (j := 2) rfl j p2 rfl) (j := 3) rfl j lv rfl) (j := 4) rfl j p3 rfl) (j := 5) rfl j p4 rfl) (j := 6) rfl j p5 rfl) (j := 7) rfl j p6 rfl
      have fin : ∀ lv, lv = ty_lv h (t_k h x p2) → Rel (n + 1) (mo_tl (ty_nw h x k (nI j) p2 p3 p4 p5 p6) r j p2 lv p3 p4 p5 p6) x r u := fun lv e => by
        have g9 := gt lv
        rw [e] at g9 ⊢
        exact Rel_of g9 hu1 (aM_up hM1) hC1
      refine ⟨_, ⟨r, nI j, p2, p3, p4, p5, p6, rfl, h5, h6, c1.1, fun w => absurd w hb, fun _ => ⟨fun w => absurd w hx2, fun _ => ⟨fun e => ⟨rfl, zz_pI_a _ _ _ _ _, ?_⟩, fun e => ⟨rfl, zz_pI_a _ _ _ _ _, ?_⟩⟩⟩⟩, fun _ _ z => z⟩
      · rw [hj]
        refine fin 1 ?_
        rcases hpk.2 with ⟨-, z⟩ | ⟨p, p8, -, z, -⟩
        · exact z.symm
        · exact absurd (z.symm.trans e) (nI_neg (by omega))
      · rw [hj]
        refine fin _ ?_
        rcases hpk.2 with ⟨z, -⟩ | ⟨p, p8, dp, z, z2, z3⟩
        · exact absurd z e
        · rw [z3, z]
          have hap1 : mo_ap (ty_nw h x k (nI j) p2 p3 p4 p5 p6) r := hap
          obtain ⟨q1, -⟩ := hM.2.1 p p8 dp
          have e9 : zz_aI (mo_t3 (ty_nw h x k (nI j) (nI p) p3 p4 p5 p6) r j (nI p)) (mf h r 3) (nI p).toNatClampNeg = nI (aT (mA h r) p) := by
            rw [nI_clamp (by omega), ← q1]
            exact (zz_sI_n _ _ _ _ (hap 3 2 (by decide) (by decide) (by decide))).trans (zz_sI_n _ _ _ _ (hap 3 1 (by decide) (by decide) (by decide)))
          exact (congrArg (· + 1) e9).trans (nI_1 _)
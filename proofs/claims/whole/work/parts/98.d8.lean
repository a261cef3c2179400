/-! insert: what both find -/
def aQ5 (A : aA) (t : Nat) : Nat := (A 5 t).toNatClampNeg
def aFnd (A : aA) (LN : List Nat) (t : Nat) (res : Option Nat) : Prop := (A 2 t = -1 ∧ res = none) ∨ (A 2 t ≠ -1 ∧ or_first LN.length 0 (fun i => A 15 (LN.getD i 0) = A 2 t ∧ aFo A (LN.getD i 0)) (fun i => LN.getD i 0) res)
def aDup (A : aA) (t : Nat) (pv : Int32) : Prop := A 6 t ≠ 0 ∧ A 5 t ≠ -1 ∧ ∃ e, aLive A e ∧ A 15 e = nI t ∧ A 16 e = pv ∧ A 18 (4 * e + aQ5 A t) = A 27 (aQ5 A t)
def aTf (A : aA) (t e : Nat) : Prop := A 8 t ≠ -1 ∧ aLive A e ∧ A 15 e = A 8 t ∧ A 17 e = -1 ∧ A 18 (4 * e + aQ5 A t) = A 27 (aQ5 A t)
def aBst (A : aA) (t : Nat) (b : Option Nat) : Prop := (b = none ∧ ∀ e, ¬ aTf A t e) ∨ ∃ i, aTf A t i ∧ b = some i ∧ ∀ j, aTf A t j → A 14 i ≤ A 14 j
theorem or_first_map {m fs : Nat} {P P' : Nat → Prop} {N N' : Nat → Nat} {σ : Nat → Nat} {a : Option Nat} (hP : ∀ i, i < m → (P i ↔ P' i)) (hN : ∀ i, i < m → N i = σ (N' i)) (h1 : or_first m fs P N a) : ∃ b, a = b.map σ ∧ or_first m fs P' N' b := by
  rcases h1 with ⟨e1, g1⟩ | ⟨i, i1, i2, i3, i4, e1⟩
  · exact ⟨none, e1, Or.inl ⟨rfl, fun j j1 j2 z => g1 j j1 j2 ((hP j j2).mpr z)⟩⟩
  · exact ⟨some (N' i), by rw [e1, hN i i2]; rfl, Or.inr ⟨i, i1, i2, (hP i i2).mp i3, fun j j1 j2 z => i4 j j1 j2 ((hP j (by omega)).mpr z), rfl⟩⟩
theorem or_first_uq {m fs : Nat} {P : Nat → Prop} {N : Nat → Nat} {a b : Option Nat} (h1 : or_first m fs P N a) (h2 : or_first m fs P N b) : a = b := by
  have := or_first_same (σ := id) (fun _ _ => Iff.rfl) (fun _ _ => rfl) h1 h2
  rw [this]; cases b <;> rfl
theorem aFnd_uq {A : aA} {LN : List Nat} {t : Nat} {a b : Option Nat} (h1 : aFnd A LN t a) (h2 : aFnd A LN t b) : a = b := by
  rcases h1 with ⟨e1, g1⟩ | ⟨e1, g1⟩
  · rcases h2 with ⟨e2, g2⟩ | ⟨e2, g2⟩
    · rw [g1, g2]
    · exact absurd e1 e2
  · rcases h2 with ⟨e2, g2⟩ | ⟨e2, g2⟩
    · exact absurd e2 e1
    · exact or_first_uq g1 g2
theorem aBst_uq {A : aA} {t : Nat} (hN : aNum A) {a b : Option Nat} (h1 : aBst A t a) (h2 : aBst A t b) : a = b := by
  rcases h1 with ⟨e1, g1⟩ | ⟨i, i1, e1, i2⟩
  · rcases h2 with ⟨e2, g2⟩ | ⟨j, j1, e2, j2⟩
    · rw [e1, e2]
    · exact absurd j1 (g1 j)
  · rcases h2 with ⟨e2, g2⟩ | ⟨j, j1, e2, j2⟩
    · exact absurd i1 (g2 i)
    · rw [e1, e2, hN i j i1.2.1 j1.2.1 (Int32.le_antisymm (i2 j j1) (j2 i i1))]
theorem least {P : Nat → Prop} : ∀ n, (∃ s, s < n ∧ P s) → ∃ s, s < n ∧ P s ∧ ∀ j, j < s → ¬ P j
  | 0, ⟨s, hs, _⟩ => absurd hs (by omega)
  | n + 1, ⟨s, hs, h⟩ => by
    by_cases hc : ∃ s, s < n ∧ P s
    · obtain ⟨s', a, b⟩ := least n hc
      exact ⟨s', by omega, b⟩
    · have : s = n := Nat.le_antisymm (by omega) (Nat.le_of_not_lt (fun z => hc ⟨s, z, h⟩))
      subst this
      exact ⟨s, hs, h, fun j hj z => hc ⟨j, hj, z⟩⟩
/-- a free slot -/
theorem aFree {A : aA} {LB : List Nat} (hL : LB.Nodup) (hm : ∀ e, e ∈ LB ↔ aLive A e) (h60 : LB.length < 60) : ∃ s, s < 60 ∧ ¬ aLive A s ∧ ∀ j, j < s → aLive A j := by
  have : ∃ s, s < 60 ∧ ¬ aLive A s := Classical.byContradiction (fun z => by
    have e1 : LB.length = mCnt (fun _ => True) 60 := mCnt_len 60 LB hL (fun s => ⟨fun w => ⟨((hm s).mp w).1, trivial⟩, fun w => (hm s).mpr (Classical.byContradiction (fun q => z ⟨s, w.1, q⟩))⟩)
    have e2 : (List.range 60).length = mCnt (fun _ => True) 60 := mCnt_len 60 _ List.nodup_range (fun s => by rw [List.mem_range]; exact ⟨fun w => ⟨w, trivial⟩, fun w => w.1⟩)
    rw [List.length_range] at e2
    omega)
  obtain ⟨s, a, b, d⟩ := least 60 this
  exact ⟨s, a, b, fun j hj => Classical.byContradiction (d j hj)⟩
section IF
variable {h g : zz_H} {x m27 n r t : Nat} {A : aA} {f : aF} {σ κ : Nat → Nat} {LB LN : List Nat} {sw t2 : Nat}
theorem c_fp (hM : aM A f n sw t2) (hC : CA h x m27 A f σ κ LB LN sw t2) {q : Nat} (q8 : q < 8) (dq : A 1 q ≠ 0) (e2 : A 2 t = nI q) {lv : Nat} (elv : lv = aT A q) {i e : Nat} (hi : LN[i]? = some e) : or_fp h (t_od h x) (κ q) (t_pa h x) lv i ↔ A 15 e = A 2 t ∧ aFo A e := by
  have ho := hC.2.2.2.2.2.2.1
  have c3 := hC.2.2.1
  have c4 := hC.2.2.2.1
  have le := (ho.2.2.2.2.2.1 e).mp (List.mem_of_getElem? hi)
  obtain ⟨e15, e8, -⟩ := hM.1 e le
  rw [or_fp, c_N ho hi, (c4.2.2 e le).2.2.1, e2]
  constructor
  · rintro ⟨z1, z2⟩
    have ek : aK A e = q := c_κinj c3 e8 q8 (hM.2.2.1 e le) dq (Option.some.inj z1)
    have el : lv = aLv A e := by rw [elv, aLv, ek]
    rw [el] at z2
    exact ⟨by rw [e15, ek], (c_dn hM hC le).mp z2⟩
  · rintro ⟨z1, z2⟩
    have ek : aK A e = q := nI_eqI9 (by omega) (by omega) (e15.symm.trans z1)
    have el : lv = aLv A e := by rw [elv, aLv, ek]
    rw [el, ek]
    exact ⟨rfl, (c_dn hM hC le).mpr z2⟩
/-- what the class finds, in slots -/
theorem c_of (hM : aM A f n sw t2) (hC : CA h x m27 A f σ κ LB LN sw t2) (t8 : t < 8) (dt : A 1 t ≠ 0) {pk lv : Nat} {a : Option Nat} (h1 : zz_fR h 1 1 (κ t) = some pk) (l4 : lv ≤ 4) (h2 : zz_fI h 1 2 pk = nI lv) (h3 : or_first (or_s h (t_od h x)) 0 (or_fp h (t_od h x) pk (t_pa h x) lv) (or_N h (t_od h x)) a) : A 2 t ≠ -1 ∧ ∃ res, a = res.map σ ∧ aFnd A LN t res := by
  have ho := hC.2.2.2.2.2.2.1
  have c3 := hC.2.2.1
  have e1 := ((c3.1 t t8).2 dt).2.2.2.1
  rw [h1] at e1
  obtain ⟨-, -, -, ⟨z, -⟩ | ⟨q, q8, dq, z, -⟩, -⟩ := hM.2.1 t t8 dt
  · rw [oS_n z] at e1; cases e1
  · rw [oS_s (by omega) z] at e1
    cases e1
    have n2 : A 2 t ≠ -1 := by rw [z]; exact nI_neg (by omega)
    have elv : lv = aT A q := by
      rw [((c3.1 q q8).2 dq).2.2.2.2.1, (hM.2.1 q q8 dq).1] at h2
      have := (hM.2.1 q q8 dq).2.2.1
      exact (nI_eqI9 (by omega) (by omega) h2).symm
    have hsz := c_size ho
    have hll := ho.2.1
    have gt : ∀ i, i < or_s h (t_od h x) → ∃ e, LN[i]? = some e ∧ LN.getD i 0 = e := fun i hi => by
      have h9 : LN[i]? = some LN[i] := List.getElem?_eq_getElem (by omega)
      exact ⟨_, h9, getD_at h9⟩
    obtain ⟨b, b1, b2⟩ := or_first_map (P' := fun i => A 15 (LN.getD i 0) = A 2 t ∧ aFo A (LN.getD i 0)) (N' := fun i => LN.getD i 0) (σ := σ) (fun i hi => by
      obtain ⟨e, he, hd⟩ := gt i hi
      rw [c_fp hM hC q8 dq z elv he, hd]) (fun i hi => by
      obtain ⟨e, he, hd⟩ := gt i hi
      rw [c_N ho he]
      show σ e = σ (LN.getD i 0)
      rw [hd]) h3
    rw [hsz, ← hll] at b2
    exact ⟨n2, b, b1, Or.inr ⟨n2, b2⟩⟩
theorem aFnd_in {res : Option Nat} (hm : ∀ e, e ∈ LN ↔ aLive A e) (hf : aFnd A LN t res) : ∀ p, res = some p → aLive A p ∧ A 15 p = A 2 t := fun p hp => by
  rcases hf with ⟨-, z⟩ | ⟨-, ⟨z, -⟩ | ⟨i, -, i2, i3, -, z⟩⟩
  · rw [z] at hp; cases hp
  · rw [z] at hp; cases hp
  · rw [z] at hp
    cases hp
    have h9 : LN[i]? = some LN[i] := List.getElem?_eq_getElem i2
    have i3 : A 15 (LN.getD i 0) = A 2 t ∧ aFo A (LN.getD i 0) := i3
    have hd : LN.getD i 0 = LN[i] := getD_at h9
    refine ⟨?_, i3.1⟩
    show aLive A (LN.getD i 0)
    rw [hd]; exact (hm _).mp (List.mem_of_getElem? h9)
theorem c_fnd (hM : aM A f n sw t2) (hC : CA h x m27 A f σ κ LB LN sw t2) (t8 : t < 8) (dt : A 1 t ≠ 0) {par : Option Nat} (hp : in_par h x (κ t) par) : ∃ res, par = res.map σ ∧ aFnd A LN t res ∧ (res ≠ none ∨ A 2 t = -1) ∧ aHg A t (mO res) ∧ oS σ (mO res) = res.map σ := by
  have ho := hC.2.2.2.2.2.2.1
  have c3 := hC.2.2.1
  rcases hp with ⟨z1, z2⟩ | ⟨pk, lv, s9, h1, l4, h2, h3, rfl⟩
  · have e2 : A 2 t = -1 := oS_none (((c3.1 t t8).2 dt).2.2.2.1.symm.trans z1)
    exact ⟨none, z2, Or.inl ⟨e2, rfl⟩, Or.inr e2, Or.inl ⟨rfl, e2⟩, rfl⟩
  · obtain ⟨n2, res, e1, e2⟩ := c_of hM hC t8 dt h1 l4 h2 h3
    cases res with
    | none => cases e1
    | some p =>
      obtain ⟨lp, p15⟩ := aFnd_in ho.2.2.2.2.2.1 e2 p rfl
      exact ⟨some p, e1, e2, Or.inl (fun z => by cases z), Or.inr ⟨p, lp, rfl, p15⟩, oS_s lp.1 rfl⟩
theorem c_nop (hM : aM A f n sw t2) (hC : CA h x m27 A f σ κ LB LN sw t2) (t8 : t < 8) (dt : A 1 t ≠ 0) (hp : in_nop h x (κ t)) : A 2 t ≠ -1 ∧ aFnd A LN t none := by
  obtain ⟨pk, lv, h1, l4, h2, h3⟩ := hp
  obtain ⟨n2, res, e1, e2⟩ := c_of hM hC t8 dt h1 l4 h2 h3
  cases res with
  | none => exact ⟨n2, e2⟩
  | some p => cases e1
theorem zz_b_ne {p : Prop} : zz_b p ≠ 0 ↔ p := by
  by_cases hp : p
  · rw [zz_bT hp]; exact ⟨fun _ => hp, fun _ => by decide⟩
  · rw [zz_bF hp]; exact ⟨fun z => absurd rfl z, fun z => absurd z hp⟩
theorem c_q5 (hM : aM A f n sw t2) (t8 : t < 8) (dt : A 1 t ≠ 0) (h5 : A 5 t ≠ -1) : ∃ ln, ln ≤ 4 ∧ A 4 t = nI ln ∧ aQ5 A t < ln ∧ A 5 t = nI (aQ5 A t) := by
  obtain ⟨-, -, -, -, ln, l1, l2, l3, l4⟩ := hM.2.1 t t8 dt
  obtain ⟨j, j1, j2⟩ := l4.resolve_left h5
  have : aQ5 A t = j := by rw [aQ5, j2]; exact nI_clamp (by omega)
  exact ⟨ln, l2, l3, by omega, by rw [this]; exact j2⟩
theorem c_dup (hM : aM A f n sw t2) (hC : CA h x m27 A f σ κ LB LN sw t2) (t8 : t < 8) (dt : A 1 t ≠ 0) {pv : Int32} (hg : aHg A t pv) : in_dup h x (κ t) (oS σ pv) ↔ aDup A t pv := by
  have ho := hC.2.2.2.2.2.2.1
  have c3 := hC.2.2.1
  have c4 := hC.2.2.2.1
  obtain ⟨k1, k2, k3, k4, k5, k6, k7, k8, k9⟩ := ((c3.1 t t8).2 dt).2
  rw [in_dup, k7, zz_b_ne, aDup, and_assoc]
  refine and_congr_right (fun h6 => and_congr_right (fun h5 => ?_))
  obtain ⟨ln, l4, e4, q1, q2⟩ := c_q5 hM t8 dt h5
  have hww : zz_aI h (t_ww h x) (aQ5 A t) = A 27 (aQ5 A t) := hC.2.2.2.2.2.1 _ (by omega)
  have key : ∀ i e, LN[i]? = some e → (or_sb h (t_od h x) (some (κ t)) (oS σ pv) (t_ww h x) i ↔ A 15 e = nI t ∧ A 16 e = pv ∧ A 18 (4 * e + aQ5 A t) = A 27 (aQ5 A t)) := fun i e hi => by
    have le := (ho.2.2.2.2.2.1 e).mp (List.mem_of_getElem? hi)
    obtain ⟨e15, e8, -, -, -, e16⟩ := hM.1 e le
    obtain ⟨z1, z2, z3, z4, z5, z6⟩ := c4.2.2 e le
    rw [or_sb, c_N ho hi, c_sgk c4 le, z3, z4]
    constructor
    · rintro ⟨w1, w2, w3, w4⟩
      have ek : aK A e = t := c_κinj c3 e8 t8 (hM.2.2.1 e le) dt (Option.some.inj w1)
      rw [ek, kd_sq, k6] at w4
      have w4 : zz_aI h (sg_w h (σ e)) (aQ5 A t) = zz_aI h (t_ww h x) (aQ5 A t) := w4
      rw [z6 _ (by omega) (by rw [ek, e4]; exact nI_lt q1 (by omega)), hww] at w4
      refine ⟨by rw [e15, ek], ?_, w4⟩
      rcases e16 with ⟨w, -⟩ | ⟨p, lp, w, -⟩
      · rw [oS_n w] at w2
        rw [w, oS_none w2.symm]
      · rw [oS_s lp.1 w] at w2
        rcases hg with ⟨g1, -⟩ | ⟨p', lp', g1, -⟩
        · rw [oS_n g1] at w2; cases w2
        · rw [oS_s lp'.1 g1] at w2
          rw [w, g1, c_σinj c4 hM.2.2.2.2.1 lp lp' (Option.some.inj w2)]
    · rintro ⟨w1, w2, w3⟩
      have ek : aK A e = t := nI_eqI9 (by omega) (by omega) (e15.symm.trans w1)
      rw [ek, w2, kd_sq, k6]
      refine ⟨rfl, rfl, h5, ?_⟩
      show zz_aI h (sg_w h (σ e)) (aQ5 A t) = zz_aI h (t_ww h x) (aQ5 A t)
      rw [z6 _ (by omega) (by rw [ek, e4]; exact nI_lt q1 (by omega)), hww]; exact w3
  have hsz := c_size ho
  have hll := ho.2.1
  constructor
  · rintro ⟨i, i1, i2⟩
    have h9 : LN[i]? = some LN[i] := List.getElem?_eq_getElem (by omega)
    exact ⟨_, (ho.2.2.2.2.2.1 _).mp (List.mem_of_getElem? h9), (key i _ h9).mp i2⟩
  · rintro ⟨e, le, w⟩
    obtain ⟨i, hi⟩ := List.getElem?_of_mem ((ho.2.2.2.2.2.1 e).mpr le)
    have := (List.getElem?_eq_some_iff.mp hi).1
    exact ⟨i, by omega, (key i e hi).mpr w⟩
end IF
section BT
variable {h h4 : zz_H} {x m27 n s t ln : Nat} {A : aA} {f f4 : aF} {σ σ' κ : Nat → Nat} {LB LN : List Nat} {sw t2 : Nat} {pv nv : Int32}
/-- the class's twin, in slots -/
theorem c_best (hM : aM A f n sw t2) (t8 : t < 8) (dt : A 1 t ≠ 0) (s60 : s < 60) (hnv : 0 < nv) (ns : ¬ aLive A s) (l4 : ln ≤ 4) (eln : A 4 t = nI ln) (hB : CN h4 x m27 (aNx A s t pv nv ln) f4 σ' κ) (hσ : ∀ e, aLive A e → σ' e = σ e) (hsz : or_s h4 (t_od h4 x) = LN.length) (hN : ∀ i e, LN[i]? = some e → or_N h4 (t_od h4 x) i = σ e) (hm : ∀ e, e ∈ LN ↔ aLive A e) {rC : Option Nat} (hb : or_best h4 (or_s h4 (t_od h4 x)) (or_tw h4 (t_od h4 x) (σ' s)) (or_N h4 (t_od h4 x)) rC) : ∃ b, rC = b.map σ ∧ aBst A t b := by
  have lv := fun e => aNx_live (A := A) (t := t) (pv := pv) (ln := ln) (e := e) s60 hnv ns
  have nsl : ∀ e, aLive A e → e ≠ s := fun e le z => ns (z ▸ le)
  have ls := (lv s).mpr (Or.inl rfl)
  obtain ⟨c1, c2, c3, c4, c5, c6, c8, c9⟩ := hB
  have eks : sg_k h4 (σ' s) = κ t := by rw [c_sgk c4 ls, aNx_K t8]
  obtain ⟨k1, k2, k3, k4, k5, k6, k7, k8, k9⟩ := ((c3.1 t t8).2 dt).2
  have k9 : zz_fR h4 1 7 (κ t) = oS κ (A 8 t) := k9
  have kk : ∀ u, u < 8 → A 1 u ≠ 0 → zz_fI h4 1 4 (κ u) = A 5 u := fun u u8 du => ((c3.1 u u8).2 du).2.2.2.2.2.2.1
  have num : ∀ e, aLive A e → zz_fI h4 2 0 (σ e) = A 14 e := fun e le => by
    have := (c4.2.2 e ((lv e).mpr (Or.inr le))).2.1
    rw [hσ e le, aNx_ne (nsl e le) (by decide)] at this
    exact this
  have key : ∀ i e, LN[i]? = some e → (or_tw h4 (t_od h4 x) (σ' s) i ↔ aTf A t e) := fun i e hi => by
    have le := (hm e).mp (List.mem_of_getElem? hi)
    have ne := nsl e le
    have le4 := (lv e).mpr (Or.inr le)
    obtain ⟨e15, e8, -⟩ := hM.1 e le
    obtain ⟨z1, z2, z3, z4, z5, z6⟩ := c4.2.2 e le4
    have ek := c_sgk c4 le4
    rw [hσ e le] at z1 z2 z3 z4 z5 z6 ek
    rw [aNx_Ke ne] at z3 z6 ek
    rw [aNx_ne ne (by decide)] at z5
    rw [or_tw, hN i e hi, eks, k9, z3, z5, ek, kd_sq, kk _ e8 (hM.2.2.1 e le), aTf]
    rcases hM.2.2.2.2.2.2.2.2.2.1 t t8 with w8 | ⟨-, u, u8, du, w8, w9, w4, w5, w6⟩
    · rw [oS_n w8]
      exact ⟨fun z => absurd rfl z.1, fun z => absurd w8 z.1⟩
    · rw [oS_s (by omega) w8, w8]
      obtain ⟨ln', l4', e4', q1, q2⟩ := c_q5 hM t8 dt w6
      have eln' : ln' = ln := nI_eqI9 (by omega) (by omega) (e4'.symm.trans eln)
      have hs6 := (c4.2.2 s ls).2.2.2.2.2 (aQ5 A t) (by omega) (by rw [aNx_K t8]; show _ < A 4 t; rw [e4']; exact nI_lt q1 (by omega))
      have hs7 : aNx A s t pv nv ln 18 (4 * s + aQ5 A t) = A 27 (aQ5 A t) := aPw_in (A := aNw A s t pv nv (-1)) (by omega)
      have words : aK A e = u → (zz_aI h4 (sg_w h4 (σ e)) (A 5 (aK A e)).toNatClampNeg = zz_aI h4 (sg_w h4 (σ' s)) (A 5 (aK A e)).toNatClampNeg ↔ A 18 (4 * e + aQ5 A t) = A 27 (aQ5 A t)) := fun ek9 => by
        have e5 : (A 5 (aK A e)).toNatClampNeg = aQ5 A t := by rw [ek9, ← w5]; rfl
        rw [e5, hs6, hs7, z6 (aQ5 A t) (by omega) (by rw [ek9]; show _ < A 4 u; rw [← w4, e4']; exact nI_lt q1 (by omega)), aNx_18 ne l4 (by omega)]
      constructor
      · rintro ⟨-, v2, v3, v4, v5⟩
        have ek9 : aK A e = u := c_κinj c3 e8 u8 (hM.2.2.1 e le) du (Option.some.inj v2)
        exact ⟨nI_neg (by omega), le, by rw [e15, ek9], oS_none v3, (words ek9).mp v5⟩
      · rintro ⟨-, -, v2, v3, v4⟩
        have ek9 : aK A e = u := nI_eqI9 (by omega) (by omega) (e15.symm.trans v2)
        exact ⟨fun z => (by cases z), by rw [ek9], oS_n v3, by rw [ek9, ← w5]; exact w6, (words ek9).mpr v4⟩
  have idx : ∀ e, aLive A e → ∃ i, i < or_s h4 (t_od h4 x) ∧ LN[i]? = some e := fun e le => by
    obtain ⟨i, hi⟩ := List.getElem?_of_mem ((hm e).mpr le)
    exact ⟨i, by rw [hsz]; exact (List.getElem?_eq_some_iff.mp hi).1, hi⟩
  rcases hb with ⟨e1, g1⟩ | ⟨i, i1, i2, e1, i3⟩
  · refine ⟨none, e1, Or.inl ⟨rfl, fun e he => ?_⟩⟩
    obtain ⟨i, il, hi⟩ := idx e he.2.1
    exact g1 i il ((key i e hi).mpr he)
  · have h9 : LN[i]? = some LN[i] := List.getElem?_eq_getElem (by omega)
    have le := (hm _).mp (List.mem_of_getElem? h9)
    refine ⟨some LN[i], by rw [e1, hN i _ h9]; rfl, Or.inr ⟨_, (key i _ h9).mp i2, rfl, fun j hj => ?_⟩⟩
    obtain ⟨k, kl, hk⟩ := idx j hj.2.1
    have := i3 k kl ((key k j hk).mpr hj)
    rw [hN i _ h9, hN k j hk, num _ le, num j hj.2.1] at this
    exact this
end BT
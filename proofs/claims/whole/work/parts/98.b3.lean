/-! the relation: what is at hand -/
theorem oS_n {κ : Nat → Nat} {x : Int32} (h : x = -1) : oS κ x = none := if_pos h
theorem oS_s {κ : Nat → Nat} {x : Int32} {t : Nat} (ht : t < 60) (h : x = nI t) : oS κ x = some (κ t) := by
  rw [oS, h, if_neg (nI_neg (by omega)), nI_clamp (by omega)]
theorem oS_none {κ : Nat → Nat} {x : Int32} (h : oS κ x = none) : x = -1 := by
  by_cases e : x = -1
  · exact e
  · rw [oS, if_neg e] at h; cases h
section RB
variable {h : zz_H} {x m27 n : Nat} {A : aA} {f : aF} {σ κ : Nat → Nat} {LB LN : List Nat} {sw t2 : Nat}
theorem c_κinj (hk : c_kd h x A κ) {t u : Nat} (ht : t < 8) (hu : u < 8) (dt : A 1 t ≠ 0) (du : A 1 u ≠ 0) (e : κ t = κ u) : t = u := by
  have h1 := ((hk.1 t ht).2 dt).2.2.1
  have h2 := ((hk.1 u hu).2 du).2.2.1
  rw [e, h2] at h1
  exact (nI_eqI9 (by omega) (by omega) h1).symm
theorem c_σinj (hs : c_sg h A σ κ) (hn : aNum A) {a b : Nat} (ha : aLive A a) (hb : aLive A b) (e : σ a = σ b) : a = b := by
  have h1 := (hs.2.2 a ha).2.1
  have h2 := (hs.2.2 b hb).2.1
  rw [e, h2] at h1
  exact hn a b ha hb h1.symm
theorem c_kdwf (hk : c_kd h x A κ) (ht : aWt A) : kd_wf h ∧ kd_lv h := by
  refine ⟨fun k m hkm => ?_, fun k m hkm => ?_⟩
  · obtain ⟨t, t8, d, rfl⟩ := hk.2 k m hkm
    obtain ⟨-, -, -, -, k4, k5, -⟩ := ((hk.1 t t8).2 d).2
    obtain ⟨-, -, -, -, l9, l1, l2, l3, l4⟩ := ht t t8 d
    refine ⟨?_, l9, l2, by rw [k4, l3]⟩
    rw [k5]
    exact l4.imp id (fun ⟨j, h1, h2⟩ => ⟨j, by omega, h2⟩)
  · obtain ⟨t, t8, d, rfl⟩ := hk.2 k m hkm
    obtain ⟨-, -, -, k3, -⟩ := ((hk.1 t t8).2 d).2
    obtain ⟨e1, e2, e3, -⟩ := ht t t8 d
    exact ⟨aT A t - 1, by omega, by rw [k3, e1, show aT A t - 1 + 1 = aT A t by omega]⟩
theorem c_paok (hsk : c_sk h x) (hp : c_pa h x A κ) (hw : aWp A) : pa_ok h (t_pa h x) := by
  obtain ⟨-, ⟨p1, p2, p3⟩, -⟩ := hsk
  refine ⟨p1, p2, fun i hi => ⟨(p3 i hi).1, ?_⟩⟩
  obtain ⟨-, s1, s2, s3, s4, s5, s6⟩ := p3 i hi
  obtain ⟨q1, q2, q3⟩ := hp i hi
  obtain ⟨w1, w2, w3⟩ := hw (i + 1) (by omega)
  have e : pl_c h (pa_l h (t_pa h x) i) = aC A (i + 1) := by rw [pl_c, q2]; rfl
  refine ⟨s1, s2, s3, s4, s5, s6, by rw [e]; exact w2, by rw [e, q2]; exact w1, fun j hj => ?_⟩
  rw [e] at hj
  exact ⟨_, (w3 j hj).2, by rw [(q3 j hj).1]; exact (w3 j hj).1⟩
theorem c_len (ho : c_or h x A f σ LB LN sw t2) : LB.length = mCnt (aLive A) 60 ∧ LB.length ≤ 60 := by
  have hnd : LB.Nodup := pw_nodup (fun a => fo_R_irr a) ho.2.2.2.2.2.2.1
  have e := mCnt_len (G := aLive A) 60 LB hnd (fun s => by rw [ho.2.2.2.2.1 s]; exact ⟨fun z => ⟨z.1, z⟩, fun z => z.2⟩)
  exact ⟨e, by rw [e]; exact mCnt_le _ _⟩
theorem c_size (ho : c_or h x A f σ LB LN sw t2) : or_s h (t_od h x) = LB.length := by
  rw [or_s, ho.1]; exact nI_clamp (by have := (c_len ho).2; omega)
theorem c_orok (hsk : c_sk h x) (ho : c_or h x A f σ LB LN sw t2) : or_ok h (t_od h x) := by
  obtain ⟨-, -, -, o1, o2, o3, o4, o5⟩ := hsk
  have := (c_len ho).2
  exact ⟨o1, o2, o3, o4, o5, by rw [c_size ho]; exact this, by rw [c_size ho]; exact ho.1⟩
theorem c_B (ho : c_or h x A f σ LB LN sw t2) {i e : Nat} (hi : LB[i]? = some e) : or_B h (t_od h x) i = σ e := by rw [or_B, ho.2.2.1 i e hi]; rfl
theorem c_N (ho : c_or h x A f σ LB LN sw t2) {i e : Nat} (hi : LN[i]? = some e) : or_N h (t_od h x) i = σ e := by rw [or_N, ho.2.2.2.1 i e hi]; rfl
theorem c_getB (ho : c_or h x A f σ LB LN sw t2) {i : Nat} (hi : i < or_s h (t_od h x)) : ∃ e, LB[i]? = some e ∧ aLive A e ∧ or_B h (t_od h x) i = σ e := by
  rw [c_size ho] at hi
  have h1 : LB[i]? = some LB[i] := List.getElem?_eq_getElem hi
  exact ⟨_, h1, (ho.2.2.2.2.1 _).mp (List.mem_of_getElem? h1), c_B ho h1⟩
theorem c_getN (ho : c_or h x A f σ LB LN sw t2) {i : Nat} (hi : i < or_s h (t_od h x)) : ∃ e, LN[i]? = some e ∧ aLive A e ∧ or_N h (t_od h x) i = σ e := by
  rw [c_size ho, ← ho.2.1] at hi
  have h1 : LN[i]? = some LN[i] := List.getElem?_eq_getElem hi
  exact ⟨_, h1, (ho.2.2.2.2.2.1 _).mp (List.mem_of_getElem? h1), c_N ho h1⟩
theorem c_okN (hsk : c_sk h x) (ho : c_or h x A f σ LB LN sw t2) : or_okN h (t_od h x) := ⟨c_orok hsk ho, fun i hi => by
  obtain ⟨e, h1, -, h3⟩ := c_getN ho hi
  rw [h3]; exact ho.2.2.2.1 i e h1⟩
theorem c_okB (hsk : c_sk h x) (ho : c_or h x A f σ LB LN sw t2) : or_okB h (t_od h x) := ⟨c_orok hsk ho, fun i hi => by
  obtain ⟨e, h1, -, h3⟩ := c_getB ho hi
  rw [h3]; exact ho.2.2.1 i e h1⟩
theorem CA_twf (hM : aM A f n sw t2) (hC : CA h x m27 A f σ κ LB LN sw t2) : t_wf h x := by
  obtain ⟨c1, c2, c3, c4, c5, c6, c7, c8, c9⟩ := hC
  exact ⟨c1.1, c_okN c1 c7, c_paok c1 c5 hM.2.2.2.1, c4.1, (c_kdwf c3 hM.2.1).1⟩
theorem CA_sw (hM : aM A f n sw t2) (hC : CA h x m27 A f σ κ LB LN sw t2) : or_sw h (t_od h x) := by
  obtain ⟨c1, c2, c3, c4, c5, c6, c7, c8, c9⟩ := hC
  intro k hk
  obtain ⟨-, r2, r3, -⟩ := c9
  have hs := hM.2.2.2.2.2.2.2.1
  have h9 : f 9 ≠ -1 := fun z => by rw [r2, oS_n z] at hk; cases hk
  obtain ⟨g1, g2, g3⟩ := hs
  rcases g3 with ⟨z, -⟩ | ⟨-, -, -, z, -⟩
  · exact absurd z h9
  · exact ⟨sw, g1, by rw [r3 h9, z]⟩
theorem CA_sy (hM : aM A f n sw t2) (hC : CA h x m27 A f σ κ LB LN sw t2) : or_sy h (t_od h x) := by
  obtain ⟨c1, c2, c3, c4, c5, c6, c7, c8, c9⟩ := hC
  intro j q hj hq
  obtain ⟨e, -, le, hB⟩ := c_getB c7 hj
  rw [hB] at hq ⊢
  obtain ⟨-, -, -, -, k5, -⟩ := c4.2.2 e le
  rw [k5] at hq
  rcases hM.2.2.2.2.2.2.2.2.2.2.1 e le with z | ⟨b, lb, z1, z2, -⟩
  · rw [oS_n z] at hq; cases hq
  · rw [oS_s lb.1 z1] at hq
    cases hq
    rw [(c4.2.2 b lb).2.2.2.2.1, oS_s le.1 z2]
/-- segments: kinds, levels, ways up -/
theorem c_sgk (hs : c_sg h A σ κ) {s : Nat} (ls : aLive A s) : sg_k h (σ s) = κ (aK A s) := by rw [sg_k, (hs.2.2 s ls).2.2.1]; rfl
theorem c_sglv (hk : c_kd h x A κ) (hs : c_sg h A σ κ) (hw : aWl A) (hd : aKd A) {s : Nat} (ls : aLive A s) : sg_lv h (σ s) = nI (aLv A s) := by
  obtain ⟨-, k8, k3, -⟩ := hw s ls
  rw [sg_lv, c_sgk hs ls, ((hk.1 _ k8).2 (hd s ls)).2.2.2.2.1, k3]
theorem c_par (hs : c_sg h A σ κ) (hw : aWl A) {s : Nat} (ls : aLive A s) : zz_fR h 2 2 (σ s) = (aP A s).map σ := by
  rw [(hs.2.2 s ls).2.2.2.1]
  obtain ⟨-, -, -, -, -, ⟨g1, -⟩ | ⟨p, g1, g2, -⟩⟩ := hw s ls
  · rw [oS_n g1, aP_none g1]; rfl
  · rw [oS_s g1.1 g2]
    have := g1.1
    rw [aP, g2, if_neg (nI_neg (by omega)), nI_clamp (by omega)]; rfl
theorem c_up (hk : c_kd h x A κ) (hs : c_sg h A σ κ) (hw : aWl A) (hd : aKd A) {l : Nat} (hl : l ≤ 4) : ∀ m s, aLive A s → sg_up h (nI l) m (σ s) = σ (fo_at (aP A) (aLv A) l m s)
  | 0, s, ls => rfl
  | m + 1, s, ls => by
    have hlv := c_sglv hk hs hw hd ls
    have h4 := (hw s ls).2.2.2.2.1
    rw [sg_up, fo_at, hlv, c_par hs hw ls]
    by_cases e : aLv A s ≤ l
    · rw [if_pos (nI_le e (by omega)), if_pos e]
    · rw [if_neg (fun z => e ((nI_leI (by omega) (by omega)).mp z)), if_neg e]
      cases hp : aP A s with
      | none => rfl
      | some p =>
        have lp : aLive A p := by
          rcases (aWl_fo hw s ls).2.2.2 with ⟨g, -⟩ | ⟨q, g1, g2, -⟩
          · rw [g] at hp; cases hp
          · rw [g1] at hp; cases hp; exact g2
        exact c_up hk hs hw hd hl m p lp
theorem fo_at_lv {live : Nat → Prop} {par : Nat → Option Nat} {lv : Nat → Nat} (hw : fo_wf live par lv) {l s : Nat} (h1 : 1 ≤ l) (ls : live s) (hl : l ≤ lv s) : live (fo_at par lv l 3 s) ∧ lv (fo_at par lv l 3 s) = l := by
  have h4 := (hw s ls).2.2.1
  have e := fo_at_c hw l h1 3 s ls (by omega) hl
  obtain ⟨a1, a2, -⟩ := fo_mem hw s ls _ _ e
  exact ⟨a1, by omega⟩
theorem fo_at_hi {par : Nat → Option Nat} {lv : Nat → Nat} {l s : Nat} (hl : lv s ≤ l) : ∀ m, fo_at par lv l m s = s
  | 0 => rfl
  | m + 1 => by rw [fo_at, if_pos hl]
theorem c_at (hk : c_kd h x A κ) (hs : c_sg h A σ κ) (hw : aWl A) (hd : aKd A) {l s : Nat} (h1 : 1 ≤ l) (h4 : l ≤ 4) (ls : aLive A s) : sg_at h (nI l) (σ s) = if l ≤ aLv A s then some (σ (fo_at (aP A) (aLv A) l 3 s)) else none := by
  have hs4 := (hw s ls).2.2.2.2.1
  rw [sg_at, c_up hk hs hw hd h4 3 s ls]
  by_cases e : l ≤ aLv A s
  · obtain ⟨a1, a2⟩ := fo_at_lv (aWl_fo hw) h1 ls e
    rw [if_pos e, c_sglv hk hs hw hd a1, a2, if_pos rfl]
  · rw [if_neg e, fo_at_hi (by omega), c_sglv hk hs hw hd ls, if_neg (fun z => e (by have := nI_eqI9 (by omega) (by omega) z; omega))]
/-- in the tree of: the same on both sides -/
theorem c_in (hk : c_kd h x A κ) (hs : c_sg h A σ κ) (hw : aWl A) (hd : aKd A) (hn : aNum A) {t s : Nat} (lt : aLive A t) (ls : aLive A s) : sg_at h (sg_lv h (σ t)) (σ s) = some (σ t) ↔ aIn A t s := by
  obtain ⟨-, -, -, t1, t4, -⟩ := hw t lt
  rw [c_sglv hk hs hw hd lt, c_at hk hs hw hd t1 t4 ls, aIn, fo_in_at (aWl_fo hw) lt ls]
  by_cases e : aLv A t ≤ aLv A s
  · rw [if_pos e]
    obtain ⟨a1, -⟩ := fo_at_lv (aWl_fo hw) t1 ls e
    constructor
    · intro z; exact ⟨e, c_σinj hs hn a1 lt (Option.some.inj z)⟩
    · rintro ⟨-, z⟩; rw [z]
  · rw [if_neg e]
    constructor
    · intro z; cases z
    · rintro ⟨z, -⟩; exact absurd z e
end RB
/-- what is below, in the reference -/
theorem mBo_in {A : aA} (hw : aWl A) {P : Nat → Option Nat → Prop} {p : Nat} (lp : aLive A p) (P0 : ∀ m, ¬ P m none) (P1 : ∀ z, P 0 (some z) ↔ z = p) (P2 : ∀ m z, P (m + 1) (some z) ↔ (z = p ∨ P m (aP A z))) : ∀ m s, aLive A s → aLv A s ≤ m + 1 → (P m (some s) ↔ aIn A p s)
  | 0, s, ls, hl => by
    rw [P1]
    obtain ⟨-, -, -, ⟨g1, g2⟩ | ⟨q, g1, g2, g3⟩⟩ := aWl_fo hw s ls
    · constructor
      · rintro rfl; exact fo_in_rf _ _
      · intro z
        have h1 := fo_in_lv (aWl_fo hw) lp ls z
        have h2 := ((fo_in_at (aWl_fo hw) lp ls).mp z).2
        rw [fo_at_hi (by have := (aWl_fo hw p lp).2.1; omega)] at h2
        exact h2
    · have := (aWl_fo hw q g2).2.1; omega
  | m + 1, s, ls, hl => by
    rw [P2]
    obtain ⟨-, -, -, ⟨g1, g2⟩ | ⟨q, g1, g2, g3⟩⟩ := aWl_fo hw s ls
    · rw [g1]
      constructor
      · rintro (rfl | z)
        · exact fo_in_rf _ _
        · exact absurd z (P0 m)
      · intro z
        have h1 := fo_in_lv (aWl_fo hw) lp ls z
        have h2 := ((fo_in_at (aWl_fo hw) lp ls).mp z).2
        rw [fo_at_hi (by have := (aWl_fo hw p lp).2.1; omega)] at h2
        exact Or.inl h2
    · have ih := mBo_in hw lp P0 P1 P2 m q g2 (by omega)
      rw [g1, ih]
      have hc := fo_c_some (aWl_fo hw) ls g1
      constructor
      · rintro (rfl | ⟨w, z⟩)
        · exact fo_in_rf _ _
        · exact ⟨w ++ [s], by rw [hc, z, List.append_assoc]⟩
      · rintro ⟨w, z⟩
        rw [hc] at z
        rcases List.eq_nil_or_concat w with rfl | ⟨w', b, rfl⟩
        · rw [List.append_nil] at z
          have e1 := fo_last (aWl_fo hw) lp
          have l1 := fo_len (aWl_fo hw) p lp
          have l2 := fo_len (aWl_fo hw) q g2
          rw [← z] at e1 l1
          rw [List.length_append] at l1
          simp at l1
          rw [List.getElem?_append_right (by omega), show aLv A p - 1 - (fo_c (aP A) q).length = 0 by omega] at e1
          exact Or.inl (by simpa using e1)
        · refine Or.inr ⟨w', ?_⟩
          rw [List.concat_eq_append, ← List.append_assoc] at z
          exact (List.append_inj' z rfl).1
theorem mBo_a {h : zz_H} {r p : Nat} (hw : aWl (mA h r)) (lp : aLive (mA h r) p) {s : Nat} (ls : aLive (mA h r) s) : mBo h r p 3 (mP h r s) ↔ aIn (mA h r) p s ∧ s ≠ p := by
  have key := mBo_in hw (P := mBo h r p) lp (fun m z => by cases m <;> exact z) (fun z => Iff.rfl) (fun m z => Iff.rfl)
  have e : mP h r s = aP (mA h r) s := rfl
  rw [e]
  obtain ⟨-, -, h4, ⟨g1, g2⟩ | ⟨q, g1, g2, g3⟩⟩ := aWl_fo hw s ls
  · rw [g1]
    constructor
    · intro z; exact z.elim
    · rintro ⟨z, hne⟩
      have h1 := fo_in_lv (aWl_fo hw) lp ls z
      have h2 := ((fo_in_at (aWl_fo hw) lp ls).mp z).2
      rw [fo_at_hi (by have := (aWl_fo hw p lp).2.1; omega)] at h2
      exact absurd h2 hne
  · rw [g1, key 3 q g2 (by omega)]
    have hc := fo_c_some (aWl_fo hw) ls g1
    constructor
    · rintro ⟨w, z⟩
      refine ⟨⟨w ++ [s], by rw [hc, z, List.append_assoc]⟩, fun e => ?_⟩
      have := fo_in_lv (aWl_fo hw) lp g2 ⟨w, z⟩
      rw [e] at g3; omega
    · rintro ⟨z, hne⟩
      have h9 := (mBo_in hw (P := mBo h r p) lp (fun m z => by cases m <;> exact z) (fun z => Iff.rfl) (fun m z => Iff.rfl) 4 s ls (by omega)).mpr z
      rcases h9 with h9 | h9
      · exact absurd h9 hne
      · have e2 : mP h r s = some q := g1
        rw [e2] at h9
        exact (key 3 q g2 (by omega)).mp h9
/-! the relation: what a path asks -/
def aFit (A : aA) (s : Nat) : Prop := A 22 (aLv A s) = -1 ∨ (A 22 (aLv A s) = A 15 s ∧ ∀ k, k < aC A (aLv A s) → pl_cmp (A 25 (3 * aLv A s + k)) (A 18 (4 * s + aW A (3 * aLv A s + k))) (A 26 (3 * aLv A s + k)))
def aFo (A : aA) (s : Nat) : Prop := ∀ l, 1 ≤ l → l ≤ aLv A s → aFit A (fo_at (aP A) (aLv A) l 3 s)
theorem fo_at_par {live : Nat → Prop} {par : Nat → Option Nat} {lv : Nat → Nat} (hw : fo_wf live par lv) {s p l : Nat} (ls : live s) (hp : par s = some p) (lp : live p) (h1 : 1 ≤ l) (hl : l ≤ lv p) (hlv : lv p + 1 = lv s) : fo_at par lv l 3 s = fo_at par lv l 3 p := by
  have s4 := (hw s ls).2.2.1
  have e1 := fo_at_c hw l h1 3 s ls (by omega) (by omega)
  have e2 := fo_at_c hw l h1 3 p lp (by omega) hl
  rw [fo_c_some hw ls hp, List.getElem?_append_left (by rw [fo_len hw p lp]; omega), e2] at e1
  exact (Option.some.inj e1).symm
theorem mFo_a {h : zz_H} {r : Nat} (hw : aWl (mA h r)) : ∀ m s, aLive (mA h r) s → aLv (mA h r) s ≤ m + 1 → (mFo h r m (some s) ↔ aFo (mA h r) s)
  | m, s, ls, hl => by
    have hfit : mo_fit h r s ↔ aFit (mA h r) s := Iff.rfl
    have h1 := (aWl_fo hw s ls).2.1
    have self : fo_at (aP (mA h r)) (aLv (mA h r)) (aLv (mA h r) s) 3 s = s := fo_at_hi (Nat.le_refl _) 3
    obtain ⟨-, -, -, ⟨g1, g2⟩ | ⟨p, g1, g2, g3⟩⟩ := aWl_fo hw s ls
    · have e : mP h r s = none := g1
      have root : aFo (mA h r) s ↔ aFit (mA h r) s := by
        constructor
        · intro z; have := z (aLv (mA h r) s) h1 (Nat.le_refl _); rw [self] at this; exact this
        · intro z l l1 l2
          have : l = aLv (mA h r) s := by omega
          rw [this, self]; exact z
      rw [root]
      cases m with
      | zero => exact hfit
      | succ m =>
        show (mo_fit h r s ∧ mFo h r m (mP h r s)) ↔ _
        rw [e]
        exact ⟨fun z => z.1, fun z => ⟨z, by cases m <;> trivial⟩⟩
    · have e : mP h r s = some p := g1
      have p1 := (aWl_fo hw p g2).2.1
      cases m with
      | zero => omega
      | succ m =>
        show (mo_fit h r s ∧ mFo h r m (mP h r s)) ↔ _
        rw [e, mFo_a hw m p g2 (by omega)]
        constructor
        · rintro ⟨z1, z2⟩ l l1 l2
          by_cases e2 : l = aLv (mA h r) s
          · rw [e2, self]; exact z1
          · rw [fo_at_par (aWl_fo hw) ls g1 g2 l1 (by omega) g3]
            exact z2 l l1 (by omega)
        · intro z
          refine ⟨by have := z (aLv (mA h r) s) h1 (Nat.le_refl _); rw [self] at this; exact this, fun l l1 l2 => ?_⟩
          have := z l l1 (by omega)
          rw [fo_at_par (aWl_fo hw) ls g1 g2 l1 l2 g3] at this
          exact this
section RP
variable {h : zz_H} {x m27 n : Nat} {A : aA} {f : aF} {σ κ : Nat → Nat} {LB LN : List Nat} {sw t2 : Nat}
theorem c_stated (hp : c_pa h x A κ) {l : Nat} (hl : l < 4) : zz_fR h 3 0 (pa_l h (t_pa h x) l) ≠ none ↔ A 22 (l + 1) ≠ -1 := by
  rw [(hp l hl).1]
  exact ⟨fun z e => z (oS_n e), fun z e => z (oS_none e)⟩
theorem c_met (hM : aM A f n sw t2) (hC : CA h x m27 A f σ κ LB LN sw t2) {a l : Nat} (la : aLive A a) (hl : aLv A a = l + 1) (l4 : l < 4) : (zz_fR h 3 0 (pa_l h (t_pa h x) l) ≠ none → pl_met h (pa_l h (t_pa h x) l) (some (σ a))) ↔ aFit A a := by
  obtain ⟨c1, c2, c3, c4, c5, c6, c7, c8, c9⟩ := hC
  obtain ⟨m1, m2, m3, m4, m5, m6, m7, m8, m9, -⟩ := hM
  rw [c_stated c5 l4, aFit, hl]
  obtain ⟨q1, q2, q3⟩ := c5 l l4
  have epc : pl_c h (pa_l h (t_pa h x) l) = aC A (l + 1) := by rw [pl_c, q2]; rfl
  obtain ⟨k1, k2, -⟩ := m1 a la
  rcases m9 (l + 1) (by omega) (by omega) with ⟨z, -⟩ | ⟨t, ln, t8, dt, z1, z2, z3, z4, z5⟩
  · exact ⟨fun _ => Or.inl z, fun _ w => absurd z w⟩
  · have hne : A 22 (l + 1) ≠ -1 := by rw [z1]; exact nI_neg (by omega)
    have hwd : A 15 a = nI t → ∀ k, k < aC A (l + 1) → (pl_one h (pa_l h (t_pa h x) l) (σ a) k ↔ pl_cmp (A 25 (3 * (l + 1) + k)) (A 18 (4 * a + aW A (3 * (l + 1) + k))) (A 26 (3 * (l + 1) + k))) := fun e k hk => by
      obtain ⟨p1, p2, p3⟩ := q3 k hk
      have ek : aK A a = t := by rw [aK, e]; exact nI_clamp (by omega)
      have hlt := z5 k hk
      have hw9 := (c4.2.2 a la).2.2.2.2.2 (aW A (3 * (l + 1) + k)) (by omega) (by rw [ek, z4]; exact nI_lt hlt (by omega))
      unfold pl_one
      rw [p1, p2, p3]
      show pl_cmp _ (zz_aI h (sg_w h (σ a)) (aW A (3 * (l + 1) + k))) _ ↔ _
      rw [hw9]
    constructor
    · intro z
      obtain ⟨s', e1, e2, e3⟩ := z hne
      cases e1
      rw [(c4.2.2 a la).2.2.1, q1, oS_s (by omega) z1] at e2
      have ek := c_κinj c3 k2 t8 (m3 a la) dt (Option.some.inj e2)
      have e : A 15 a = nI t := by rw [k1, ek]
      refine Or.inr ⟨z1.trans e.symm, fun k hk => ?_⟩
      exact (hwd e k hk).mp (e3 k (by rw [epc]; exact hk))
    · rintro (z | ⟨z, w⟩) -
      · exact absurd z hne
      · have e : A 15 a = nI t := z.symm.trans z1
        have ek : aK A a = t := by rw [aK, e]; exact nI_clamp (by omega)
        refine ⟨σ a, rfl, ?_, fun k hk => ?_⟩
        · rw [(c4.2.2 a la).2.2.1, q1, oS_s (by omega) z1, ek]
        · rw [epc] at hk
          exact (hwd e k hk).mpr (w k hk)
theorem c_dn (hM : aM A f n sw t2) (hC : CA h x m27 A f σ κ LB LN sw t2) {s : Nat} (ls : aLive A s) : pa_dn h (t_pa h x) (aLv A s) (σ s) ↔ aFo A s := by
  have hw := hM.1
  have h4 := (hw s ls).2.2.2.2.1
  have at9 : ∀ i, i < aLv A s → sg_at h (nI (i + 1)) (σ s) = some (σ (fo_at (aP A) (aLv A) (i + 1) 3 s)) := fun i hi => by
    rw [c_at hC.2.2.1 hC.2.2.2.1 hw hM.2.2.1 (by omega) (by omega) ls, if_pos (by omega)]
  constructor
  · intro z l l1 l2
    obtain ⟨a1, a2⟩ := fo_at_lv (aWl_fo hw) l1 ls l2
    have := z (l - 1) (by omega)
    rw [at9 (l - 1) (by omega), show l - 1 + 1 = l by omega] at this
    exact (c_met hM hC a1 (by omega) (by omega)).mp this
  · intro z i hi
    obtain ⟨a1, a2⟩ := fo_at_lv (aWl_fo hw) (l := i + 1) (by omega) ls (by omega)
    rw [at9 i hi]
    exact (c_met hM hC a1 a2 (by omega)).mpr (z (i + 1) (by omega) (by omega))
def aLow (A : aA) : Nat → Nat
  | 0 => 0
  | m + 1 => if A 22 (m + 1) = -1 then aLow A m else m + 1
theorem c_low (hp : c_pa h x A κ) : ∀ m, m ≤ 4 → pa_low h (t_pa h x) m = aLow A m
  | 0, _ => rfl
  | m + 1, hm => by
    have ih := c_low hp m (by omega)
    have hs := c_stated hp (l := m) (by omega)
    rw [pa_low, aLow, ih]
    by_cases e : A 22 (m + 1) = -1
    · rw [if_pos e, if_neg (fun z => hs.mp z e)]
    · rw [if_neg e, if_pos (hs.mpr e)]
theorem aLow_le (A : aA) : ∀ m, aLow A m ≤ m
  | 0 => Nat.le_refl _
  | m + 1 => by
    have := aLow_le A m
    rw [aLow]; split <;> omega
def aMeet (A : aA) (s : Nat) : Prop := aLow A 4 = 0 ∨ (aLv A s = aLow A 4 ∧ aFo A s)
theorem c_meet (hM : aM A f n sw t2) (hC : CA h x m27 A f σ κ LB LN sw t2) {s : Nat} (ls : aLive A s) : pa_met h (t_pa h x) (σ s) ↔ aMeet A s := by
  have hw := hM.1
  have h4 := (hw s ls).2.2.2.2.1
  have l4 := aLow_le A 4
  rw [pa_met, c_low hC.2.2.2.2.1 4 (Nat.le_refl _), c_sglv hC.2.2.1 hC.2.2.2.1 hw hM.2.2.1 ls, aMeet]
  constructor
  · rintro (z | ⟨z1, z2⟩)
    · exact Or.inl z
    · have e := nI_eqI9 (by omega) (by omega) z1
      rw [← e] at z2
      exact Or.inr ⟨e, (c_dn hM hC ls).mp z2⟩
  · rintro (z | ⟨z1, z2⟩)
    · exact Or.inl z
    · refine Or.inr ⟨by rw [z1], ?_⟩
      rw [← z1]; exact (c_dn hM hC ls).mpr z2
end RP
theorem mlow_a (h : zz_H) (r : Nat) : ∀ m, m ≤ 4 → mlow h r m = aLow (mA h r) m
  | 0, _ => rfl
  | m + 1, hm => by
    have ih := mlow_a h r m (by omega)
    rw [mlow, aLow, ih]; rfl
theorem mo_meet_a {h : zz_H} {r : Nat} (hw : aWl (mA h r)) {s : Nat} (ls : aLive (mA h r) s) : mo_meet h r s ↔ aMeet (mA h r) s := by
  have h4 := (hw s ls).2.2.2.2.1
  rw [mo_meet, mlow_a h r 4 (Nat.le_refl _), mFo_a hw 4 s ls (by omega)]; rfl
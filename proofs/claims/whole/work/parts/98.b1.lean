/-! what the reference holds, as plain functions (without what it only sorts in) -/
def mS (j : Nat) : Bool := match j with
  | 1 => true
  | 2 => true
  | 3 => true
  | 4 => true
  | 5 => true
  | 6 => true
  | 7 => true
  | 8 => true
  | 14 => true
  | 15 => true
  | 16 => true
  | 17 => true
  | 18 => true
  | 22 => true
  | 23 => true
  | 24 => true
  | 25 => true
  | 26 => true
  | 27 => true
  | _ => false
def mA (h : zz_H) (r : Nat) : Nat → Nat → Int32 := fun j i => if mS j = true then ma h r j i else 0
def mQ (h : zz_H) (r : Nat) : Nat → Int32 := fun j => if j = 0 then 0 else zz_fI h 7 j r
abbrev aA : Type := Nat → Nat → Int32
abbrev aF : Type := Nat → Int32
def aK (A : aA) (s : Nat) : Nat := (A 15 s).toNatClampNeg
def aT (A : aA) (k : Nat) : Nat := (A 3 k).toNatClampNeg
def aLv (A : aA) (s : Nat) : Nat := aT A (aK A s)
def aLive (A : aA) (s : Nat) : Prop := s < 60 ∧ 0 < A 14 s
def aP (A : aA) (s : Nat) : Option Nat := if A 16 s = -1 then none else some (A 16 s).toNatClampNeg
def aAb (A : aA) (t : Nat) : Option Nat := if A 2 t = -1 then none else some (A 2 t).toNatClampNeg
def aC (A : aA) (l : Nat) : Nat := (A 23 l).toNatClampNeg
def aW (A : aA) (k : Nat) : Nat := (A 24 k).toNatClampNeg
def aWl (A : aA) : Prop := ∀ s, aLive A s → A 15 s = nI (aK A s) ∧ aK A s < 8 ∧ A 3 (aK A s) = nI (aLv A s) ∧ 1 ≤ aLv A s ∧ aLv A s ≤ 4 ∧ ((A 16 s = -1 ∧ aLv A s = 1) ∨ ∃ p, aLive A p ∧ A 16 s = nI p ∧ aLv A p + 1 = aLv A s)
def aWt (A : aA) : Prop := ∀ t, t < 8 → A 1 t ≠ 0 → A 3 t = nI (aT A t) ∧ 1 ≤ aT A t ∧ aT A t ≤ 4 ∧ ((A 2 t = -1 ∧ aT A t = 1) ∨ ∃ p, p < 8 ∧ A 1 p ≠ 0 ∧ A 2 t = nI p ∧ aT A p + 1 = aT A t) ∧ ∃ n, 1 ≤ n ∧ n ≤ 4 ∧ A 4 t = nI n ∧ (A 5 t = -1 ∨ ∃ j, j < n ∧ A 5 t = nI j)
def aKd (A : aA) : Prop := ∀ s, aLive A s → A 1 (aK A s) ≠ 0
def aWp (A : aA) : Prop := ∀ l, l < 5 → A 23 l = nI (aC A l) ∧ aC A l ≤ 3 ∧ ∀ k, k < aC A l → A 24 (3 * l + k) = nI (aW A (3 * l + k)) ∧ aW A (3 * l + k) < 4
def aSqv (A : aA) (a : Nat) : Nat := (A 5 (aK A a)).toNatClampNeg
def aSq2 (A : aA) (a b : Nat) : Prop := (A 5 (aK A a) ≠ -1 ∧ A 18 (4 * a + aSqv A a) ≠ A 18 (4 * b + aSqv A a) ∧ A 18 (4 * a + aSqv A a) < A 18 (4 * b + aSqv A a)) ∨ ((A 5 (aK A a) = -1 ∨ A 18 (4 * a + aSqv A a) = A 18 (4 * b + aSqv A a)) ∧ (((A 5 (aK A a) = -1 ∨ A 7 (aK A a) ≠ 0) ∧ A 14 a < A 14 b) ∨ (¬ (A 5 (aK A a) = -1 ∨ A 7 (aK A a) ≠ 0) ∧ A 14 b < A 14 a)))
def aRt (A : aA) : Nat → Nat → Nat
  | 0, t => t
  | n + 1, t => match aAb A t with
    | none => t
    | some p => aRt A n p
def aSec (A : aA) (f : aF) (t2 a : Nat) : Prop := A 16 a = -1 ∧ f 11 ≠ 0 ∧ A 15 a = nI (aRt A 3 t2)
/-- siblings by sequence; siblings as they stand now, by the values v -/
def s0 (A : aA) (a b : Nat) : Prop := (A 15 a ≠ A 15 b ∧ A 15 a < A 15 b) ∨ (A 15 a = A 15 b ∧ aSq2 A a b)
def s1 (A : aA) (f : aF) (t2 : Nat) (v : Nat → Int64) (a b : Nat) : Prop := (A 15 a ≠ A 15 b ∧ A 15 a < A 15 b) ∨ (A 15 a = A 15 b ∧ ((aSec A f t2 a ∧ ((v a ≠ v b ∧ v a < v b) ∨ (v a = v b ∧ A 14 a < A 14 b))) ∨ (¬ aSec A f t2 a ∧ aSq2 A a b)))
def aRo (A : aA) (s : Nat) : Nat := fo_at (aP A) (aLv A) 1 3 s
def aOf (A : aA) (f : aF) (s x : Nat) : Prop := aLive A s ∧ A 15 s = f 9 ∧ aRo A s = x
def aWv (A : aA) (sw s : Nat) : Int64 := (A 18 (4 * s + sw)).toInt64
def PV (A : aA) (f : aF) (sw : Nat) (v : Nat → Int64) : Prop := ∀ x, x < 60 → ((∀ s, s < 60 → ¬ aOf A f s x) → v x = mB40) ∧ (∀ s, s < 60 → aOf A f s x → v x ≤ aWv A sw s) ∧ ((∃ s, s < 60 ∧ aOf A f s x) → ∃ s, s < 60 ∧ aOf A f s x ∧ v x = aWv A sw s)
def oS (κ : Nat → Nat) (x : Int32) : Option Nat := if x = -1 then none else some (κ x.toNatClampNeg)
def aIn (A : aA) (t s : Nat) : Prop := fo_in (aP A) t s
section LK
variable {h : zz_H} {r : Nat}
theorem mAt_fo (h : zz_H) (r l : Nat) : ∀ n s, mAt h r l n s = fo_at (aP (mA h r)) (aLv (mA h r)) l n s
  | 0, s => rfl
  | n + 1, s => by
    have e : mP h r s = aP (mA h r) s := rfl
    have e2 : mLv h r s = aLv (mA h r) s := rfl
    rw [mAt, fo_at, e, e2]
    cases aP (mA h r) s with
    | none => rfl
    | some p =>
      show (if _ then s else mAt h r l n p) = (if _ then s else fo_at _ _ l n p)
      rw [mAt_fo h r l n p]
theorem mRt_a (h : zz_H) (r : Nat) : ∀ n t, mRt h r n t = aRt (mA h r) n t
  | 0, t => rfl
  | n + 1, t => by
    have e : mAb h r t = aAb (mA h r) t := rfl
    rw [mRt, aRt, e]
    cases aAb (mA h r) t with
    | none => rfl
    | some p => exact mRt_a h r n p
theorem mSec_a (h : zz_H) (r t2 a : Nat) : mSec h r t2 a = aSec (mA h r) (mQ h r) t2 a := by
  rw [mSec, mRt_a]; rfl
theorem mSib_a (h : zz_H) (r t2 a b : Nat) : mSib h r t2 a b = s1 (mA h r) (mQ h r) t2 (fun s => mVa h r s) a b := by
  rw [mSib, mSec_a]; rfl
theorem mF_a (h : zz_H) (r t2 a b : Nat) : ∀ n l, mF h r t2 a b n l ↔ fo_F (aP (mA h r)) (aLv (mA h r)) (s1 (mA h r) (mQ h r) t2 (fun s => mVa h r s)) a b n l
  | 0, l => Iff.rfl
  | n + 1, l => by
    have ih := mF_a h r t2 a b n (l + 1)
    unfold mF fo_F
    rw [mAt_fo, mAt_fo, mSib_a]
    show (if l ≤ aLv (mA h r) a ∧ l ≤ aLv (mA h r) b then _ else _) ↔ _
    by_cases ho : l ≤ aLv (mA h r) a ∧ l ≤ aLv (mA h r) b
    · rw [if_pos ho]
      by_cases he : fo_at (aP (mA h r)) (aLv (mA h r)) l 3 a = fo_at (aP (mA h r)) (aLv (mA h r)) l 3 b
      · rw [if_pos he, ih]
        constructor
        · exact fun z => Or.inl ⟨ho.1, ho.2, Or.inl ⟨he, z⟩⟩
        · rintro (⟨-, -, ⟨-, z⟩ | ⟨z, -⟩⟩ | ⟨z, -⟩)
          · exact z
          · exact absurd he z
          · exact absurd ho z
      · rw [if_neg he]
        constructor
        · exact fun z => Or.inl ⟨ho.1, ho.2, Or.inr ⟨he, z⟩⟩
        · rintro (⟨-, -, ⟨z, -⟩ | ⟨-, z⟩⟩ | ⟨z, -⟩)
          · exact absurd z he
          · exact z
          · exact absurd ho z
    · rw [if_neg ho]
      constructor
      · exact fun z => Or.inr ⟨ho, z⟩
      · rintro (⟨z1, z2, -⟩ | ⟨-, z⟩)
        · exact absurd ⟨z1, z2⟩ ho
        · exact z
theorem mVl_PV {sw : Nat} {y : Nat → Nat → Int64} (hv : mVl h r sw 60 y) : PV (mA h r) (mQ h r) sw (y (mf h r 20)) := fun x hx => by
  obtain ⟨h1, h2, h3⟩ := hv.2 x hx
  have e : ∀ s, mOf h r s x ↔ aOf (mA h r) (mQ h r) s x := fun s => by
    unfold mOf aOf aRo
    rw [mAt_fo]; exact Iff.rfl
  refine ⟨fun z => h1 (fun s hs w => z s hs ((e s).mp w)), fun s hs w => h2 s hs ((e s).mpr w), fun ⟨s, hs, w⟩ => ?_⟩
  obtain ⟨s', a1, a2, a3⟩ := h3 ⟨s, hs, (e s).mpr w⟩
  exact ⟨s', a1, (e s').mp a2, a3⟩
end LK
/-! the reference's inner order -/
theorem aWl_fo {A : aA} (h : aWl A) : fo_wf (aLive A) (aP A) (aLv A) := fun s hs => by
  obtain ⟨e1, e2, e3, e4, e5, e6⟩ := h s hs
  refine ⟨hs.1, e4, e5, ?_⟩
  rcases e6 with ⟨g1, g2⟩ | ⟨p, g1, g2, g3⟩
  · exact Or.inl ⟨if_pos g1, g2⟩
  · refine Or.inr ⟨p, ?_, g1, g3⟩
    have := g1.1
    rw [aP, g2, if_neg (nI_neg (by omega)), nI_clamp (by omega)]
/-- numbers of live segments are apart -/
def aNum (A : aA) : Prop := ∀ a b, aLive A a → aLive A b → A 14 a = A 14 b → a = b
theorem i32_tri (a b : Int32) : a < b ∨ a = b ∨ b < a := by
  rcases Int.lt_trichotomy a.toInt b.toInt with h | h | h
  · exact Or.inl (Int32.lt_iff_toInt_lt.mpr h)
  · exact Or.inr (Or.inl (Int32.toInt_inj.mp h))
  · exact Or.inr (Or.inr (Int32.lt_iff_toInt_lt.mpr h))
theorem i64_tri (a b : Int64) : a < b ∨ a = b ∨ b < a := by
  rcases Int.lt_trichotomy a.toInt b.toInt with h | h | h
  · exact Or.inl (Int64.lt_iff_toInt_lt.mpr h)
  · exact Or.inr (Or.inl (Int64.toInt_inj.mp h))
  · exact Or.inr (Or.inr (Int64.lt_iff_toInt_lt.mpr h))
theorem aK_of {A : aA} {a b : Nat} (e : A 15 a = A 15 b) : aK A a = aK A b := by rw [aK, aK, e]
theorem aSqv_of {A : aA} {a b : Nat} (e : A 15 a = A 15 b) : aSqv A a = aSqv A b := by rw [aSqv, aSqv, aK_of e]
theorem s0_sb {A : aA} (hn : aNum A) : fo_sb (aLive A) (aP A) (s0 A) := by
  have irr : ∀ x : Int32, ¬ x < x := fun x => Int32.lt_irrefl
  have tr : ∀ {x y z : Int32}, x < y → y < z → x < z := fun h1 h2 => Int32.lt_trans h1 h2
  have asy : ∀ {x y : Int32}, x < y → ¬ y < x := fun h1 h2 => irr _ (tr h1 h2)
  refine ⟨fun a _ z => ?_, fun a b ha hb _ hne => ?_, fun a b d _ _ _ _ _ z1 z2 => ?_⟩
  · rcases z with ⟨z, -⟩ | ⟨-, ⟨-, z, -⟩ | ⟨-, ⟨-, z⟩ | ⟨-, z⟩⟩⟩
    · exact z rfl
    · exact z rfl
    · exact irr _ z
    · exact irr _ z
  · rcases i32_tri (A 15 a) (A 15 b) with h | h | h
    · exact Or.inl (Or.inl ⟨fun z => irr _ (z ▸ h), h⟩)
    · have hnum : A 14 a ≠ A 14 b := fun z => hne (hn a b ha hb z)
      have hq := aSqv_of h
      have hk := aK_of h
      have fin : ∀ (hA : A 5 (aK A a) = -1 ∨ A 18 (4 * a + aSqv A a) = A 18 (4 * b + aSqv A a)), s0 A a b ∨ s0 A b a := fun hA => by
        have hA' : A 5 (aK A b) = -1 ∨ A 18 (4 * b + aSqv A b) = A 18 (4 * a + aSqv A b) := by rw [← hk, ← hq]; exact hA.imp id Eq.symm
        by_cases hl : A 5 (aK A a) = -1 ∨ A 7 (aK A a) ≠ 0
        · rcases i32_tri (A 14 a) (A 14 b) with h9 | h9 | h9
          · exact Or.inl (Or.inr ⟨h, Or.inr ⟨hA, Or.inl ⟨hl, h9⟩⟩⟩)
          · exact absurd h9 hnum
          · exact Or.inr (Or.inr ⟨h.symm, Or.inr ⟨hA', Or.inl ⟨by rw [← hk]; exact hl, h9⟩⟩⟩)
        · rcases i32_tri (A 14 a) (A 14 b) with h9 | h9 | h9
          · exact Or.inr (Or.inr ⟨h.symm, Or.inr ⟨hA', Or.inr ⟨by rw [← hk]; exact hl, h9⟩⟩⟩)
          · exact absurd h9 hnum
          · exact Or.inl (Or.inr ⟨h, Or.inr ⟨hA, Or.inr ⟨hl, h9⟩⟩⟩)
      by_cases h5 : A 5 (aK A a) = -1
      · exact fin (Or.inl h5)
      · rcases i32_tri (A 18 (4 * a + aSqv A a)) (A 18 (4 * b + aSqv A a)) with h9 | h9 | h9
        · exact Or.inl (Or.inr ⟨h, Or.inl ⟨h5, fun z => irr _ (z ▸ h9), h9⟩⟩)
        · exact fin (Or.inr h9)
        · exact Or.inr (Or.inr ⟨h.symm, Or.inl ⟨by rw [← hk]; exact h5, by rw [← hq]; exact fun z => irr _ (z ▸ h9), by rw [← hq]; exact h9⟩⟩)
    · exact Or.inr (Or.inl ⟨fun z => irr _ (z ▸ h), h⟩)
  · rcases z1 with ⟨n1, z1⟩ | ⟨e1, z1⟩
    · rcases z2 with ⟨n2, z2⟩ | ⟨e2, z2⟩
      · have := tr z1 z2
        exact Or.inl ⟨fun z => irr _ (z ▸ this), this⟩
      · exact Or.inl ⟨by rw [← e2]; exact n1, by rw [← e2]; exact z1⟩
    · rcases z2 with ⟨n2, z2⟩ | ⟨e2, z2⟩
      · exact Or.inl ⟨by rw [e1]; exact n2, by rw [e1]; exact z2⟩
      · have hq := aSqv_of e1
        have hk := aK_of e1
        refine Or.inr ⟨e1.trans e2, ?_⟩
        unfold aSq2 at z1 z2 ⊢
        rw [← hk, ← hq] at z2
        rcases z1 with ⟨g1, g2, g3⟩ | ⟨g1, g2⟩
        · rcases z2 with ⟨f1, f2, f3⟩ | ⟨f1, f2⟩
          · have := tr g3 f3
            exact Or.inl ⟨g1, fun z => irr _ (z ▸ this), this⟩
          · have f1 := f1.resolve_left g1
            rw [← f1]; exact Or.inl ⟨g1, g2, g3⟩
        · rcases z2 with ⟨f1, f2, f3⟩ | ⟨f1, f2⟩
          · have g1 := g1.resolve_left f1
            rw [g1]; exact Or.inl ⟨f1, f2, f3⟩
          · refine Or.inr ⟨?_, ?_⟩
            · rcases g1 with g1 | g1
              · exact Or.inl g1
              · exact f1.imp id (fun f1 => g1.trans f1)
            · rcases g2 with ⟨q1, q2⟩ | ⟨q1, q2⟩
              · rcases f2 with ⟨w1, w2⟩ | ⟨w1, w2⟩
                · exact Or.inl ⟨q1, tr q2 w2⟩
                · exact absurd q1 w1
              · rcases f2 with ⟨w1, w2⟩ | ⟨w1, w2⟩
                · exact absurd w1 q1
                · exact Or.inr ⟨q1, tr w2 q2⟩
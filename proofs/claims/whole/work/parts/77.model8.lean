/-! the reference: heaps that are the same but for the order -/
def mo_ap (h : zz_H) (r : Nat) : Prop := ∀ i j, mo_sz i ≠ none → mo_sz j ≠ none → i ≠ j → mf h r i ≠ mf h r j
def mo_sm (r : Nat) (h h' : zz_H) : Prop := zz_fI h' = zz_fI h ∧ zz_fR h' = zz_fR h ∧ zz_tg h' = zz_tg h ∧ (∀ j, mo_sz j ≠ none → j ≠ 19 → ∀ i, ma h' r j i = ma h r j i) ∧ ∀ s, mVa h' r s = mVa h r s
section SM
variable {r : Nat} {h h' : zz_H}
theorem mo_sm_a (e : mo_sm r h h') (j : Nat) (h1 : mo_sz j ≠ none) (h2 : j ≠ 19) (i : Nat) : ma h' r j i = ma h r j i := e.2.2.2.1 j h1 h2 i
theorem mo_sm_K (e : mo_sm r h h') (s : Nat) : mK h' r s = mK h r s := by rw [mK, mK, mo_sm_a e 15 (by decide) (by decide)]
theorem mo_sm_T (e : mo_sm r h h') (s : Nat) : mT h' r s = mT h r s := by rw [mT, mT, mo_sm_a e 3 (by decide) (by decide)]
theorem mo_sm_Lv (e : mo_sm r h h') (s : Nat) : mLv h' r s = mLv h r s := by rw [mLv, mLv, mo_sm_K e, mo_sm_T e]
theorem mo_sm_L (e : mo_sm r h h') (s : Nat) : mLive h' r s = mLive h r s := by rw [mLive, mLive, mo_sm_a e 14 (by decide) (by decide)]
theorem mo_sm_P (e : mo_sm r h h') (s : Nat) : mP h' r s = mP h r s := by rw [mP, mP, mo_sm_a e 16 (by decide) (by decide)]
theorem mo_sm_At (e : mo_sm r h h') (l : Nat) : ∀ n s, mAt h' r l n s = mAt h r l n s
  | 0, s => rfl
  | n + 1, s => by
    rw [mAt, mAt, mo_sm_Lv e, mo_sm_P e]
    by_cases hl : mLv h r s ≤ l
    · rw [if_pos hl, if_pos hl]
    · rw [if_neg hl, if_neg hl]
      cases mP h r s with
      | none => rfl
      | some p => exact mo_sm_At e l n p
theorem mo_sm_Ab (e : mo_sm r h h') (s : Nat) : mAb h' r s = mAb h r s := by rw [mAb, mAb, mo_sm_a e 2 (by decide) (by decide)]
theorem mo_sm_Rt (e : mo_sm r h h') : ∀ n s, mRt h' r n s = mRt h r n s
  | 0, s => rfl
  | n + 1, s => by
    rw [mRt, mRt, mo_sm_Ab e]
    cases mAb h r s with
    | none => rfl
    | some p => exact mo_sm_Rt e n p
theorem mo_sm_wl (e : mo_sm r h h') (hw : mo_wl h r) : mo_wl h' r := fun s hs => by
  rw [mo_sm_L e] at hs
  have := hw s hs
  rw [mo_sm_a e 15 (by decide) (by decide), mo_sm_a e 3 (by decide) (by decide), mo_sm_a e 16 (by decide) (by decide), mo_sm_K e, mo_sm_Lv e]
  obtain ⟨e1, e2, e3, e4, e5, e6⟩ := this
  refine ⟨e1, e2, e3, e4, e5, e6.elim Or.inl (fun ⟨p, g1, g2, g3⟩ => Or.inr ⟨p, by rw [mo_sm_L e]; exact g1, g2, by rw [mo_sm_Lv e]; exact g3⟩)⟩
theorem mo_sm_wt (e : mo_sm r h h') (hw : mo_wt h r) : mo_wt h' r := fun t ht hd => by
  rw [mo_sm_a e 1 (by decide) (by decide)] at hd
  obtain ⟨e1, e2, e3, e4, e5⟩ := hw t ht hd
  rw [mo_sm_a e 3 (by decide) (by decide), mo_sm_a e 2 (by decide) (by decide), mo_sm_T e]
  refine ⟨e1, e2, e3, e4.elim Or.inl (fun ⟨p, g1, g2, g3, g4⟩ => Or.inr ⟨p, g1, by rw [mo_sm_a e 1 (by decide) (by decide)]; exact g2, g3, by rw [mo_sm_T e]; exact g4⟩), ?_⟩
  rw [mo_sm_a e 4 (by decide) (by decide), mo_sm_a e 5 (by decide) (by decide)]
  exact e5
theorem mo_sm_kd (e : mo_sm r h h') (hw : mo_kd h r) : mo_kd h' r := fun s hs => by
  rw [mo_sm_L e] at hs
  rw [mo_sm_K e, mo_sm_a e 1 (by decide) (by decide)]
  exact hw s hs
theorem mo_sm_t2 (e : mo_sm r h h') {t2 : Nat} (hw : mo_t2 h r t2) : mo_t2 h' r t2 := fun hz => by
  rw [e.1] at hz ⊢
  rw [mo_sm_a e 1 (by decide) (by decide)]
  exact hw hz
theorem mo_sm_Sec (e : mo_sm r h h') (t2 a : Nat) : mSec h' r t2 a = mSec h r t2 a := by rw [mSec, mSec, e.1, mo_sm_a e 16 (by decide) (by decide), mo_sm_a e 15 (by decide) (by decide), mo_sm_Rt e]
theorem mo_sm_Sqv (e : mo_sm r h h') (a : Nat) : mSqv h' r a = mSqv h r a := by rw [mSqv, mSqv, mo_sm_K e, mo_sm_a e 5 (by decide) (by decide)]
theorem mo_sm_Sq2 (e : mo_sm r h h') (a b : Nat) : mSq2 h' r a b = mSq2 h r a b := by
  rw [mSq2, mSq2, mo_sm_Sqv e, mo_sm_K e, mo_sm_a e 5 (by decide) (by decide), mo_sm_a e 7 (by decide) (by decide), mo_sm_a e 18 (by decide) (by decide), mo_sm_a e 18 (by decide) (by decide), mo_sm_a e 14 (by decide) (by decide), mo_sm_a e 14 (by decide) (by decide)]
theorem mo_sm_Sib (e : mo_sm r h h') (t2 a b : Nat) : mSib h' r t2 a b = mSib h r t2 a b := by
  rw [mSib, mSib, mo_sm_Sec e, mo_sm_Sq2 e, e.2.2.2.2 a, e.2.2.2.2 b, mo_sm_a e 15 (by decide) (by decide), mo_sm_a e 15 (by decide) (by decide), mo_sm_a e 14 (by decide) (by decide), mo_sm_a e 14 (by decide) (by decide)]
theorem mo_sm_F (e : mo_sm r h h') (t2 a b : Nat) : ∀ n l, mF h' r t2 a b n l = mF h r t2 a b n l
  | 0, l => by rw [mF, mF, mo_sm_Lv e, mo_sm_Lv e]
  | n + 1, l => by
    have ih := mo_sm_F e t2 a b n (l + 1)
    have e1 := mo_sm_At e l 3 a
    have e2 := mo_sm_At e l 3 b
    have e3 := mo_sm_Sib e t2 (mAt h r l 3 a) (mAt h r l 3 b)
    simp only [mF, mo_sm_Lv e, ih, e1, e2, e3]
theorem mo_sm_Fst (e : mo_sm r h h') (t2 a b : Nat) : mFst h' r t2 a b = mFst h r t2 a b := mo_sm_F e t2 a b 4 1
theorem mo_sm_ok (e : mo_sm r h h') (hok : mo_ok h r) : mo_ok h' r := fun j ty n hj => by
  have e1 : mf h' r j = mf h r j := by rw [mf, mf, e.2.1]
  rw [e1, e.2.1, e.2.2.1]
  exact hok j ty n hj
end SM
def mo_rx (h : zz_H) (x : Nat → Nat → Int32) : zz_H := (h.1, h.2.1, h.2.2.1, x, h.2.2.2.2.1, h.2.2.2.2.2)
theorem mo_rx_sm {h : zz_H} {r : Nat} {x : Nat → Nat → Int32} (hap : mo_ap h r) (hx : ∀ b j, b ≠ mf h r 19 → x b j = zz_aI h b j) : mo_sm r h (mo_rx h x) := ⟨rfl, rfl, rfl, fun j h1 h2 i => hx _ _ (hap j 19 h1 (by decide) h2), fun _ => rfl⟩
/-! sorting by insertion from the right -/
def mIns (P : Nat → Nat → Prop) (s : Nat) (L0 L1 : List Nat) : Prop := ∃ A B, L0 = A ++ B ∧ L1 = A ++ s :: B ∧ (∀ e ∈ B, P s e) ∧ (A = [] ∨ ∃ A' e, A = A' ++ [e] ∧ ¬ P s e)
def mSrt (P : Nat → Nat → Prop) (Lv : Nat → Prop) : Nat → List Nat → Prop
  | 0, Ls => Ls = []
  | n + 1, Ls => (Lv n ∧ ∃ L0, mSrt P Lv n L0 ∧ mIns P n L0 Ls) ∨ (¬ Lv n ∧ mSrt P Lv n Ls)
theorem mSrt_in {P : Nat → Nat → Prop} {Lv : Nat → Prop} : ∀ n Ls, mSrt P Lv n Ls → Ls.length ≤ n ∧ ∀ e ∈ Ls, Lv e
  | 0, Ls, hs => by
    have : Ls = [] := hs
    subst this
    exact ⟨Nat.le_refl _, fun _ h => by cases h⟩
  | n + 1, Ls, hs => by
    rcases hs with ⟨h1, L0, h2, A, B, rfl, rfl, -, -⟩ | ⟨-, h2⟩
    · obtain ⟨g1, g2⟩ := mSrt_in n _ h2
      rw [List.length_append] at g1
      refine ⟨by rw [List.length_append, List.length_cons]; omega, fun e he => ?_⟩
      rcases List.mem_append.mp he with he | he
      · exact g2 e (List.mem_append_left _ he)
      · rcases List.mem_cons.mp he with rfl | he
        · exact h1
        · exact g2 e (List.mem_append_right _ he)
    · obtain ⟨g1, g2⟩ := mSrt_in n _ h2
      exact ⟨by omega, g2⟩
def mX (d : Nat) (x : Nat → Nat → Int32) (f : Nat) (Ls : List Nat) : Prop := ∀ j a, Ls[j]? = some a → x d (f + j) = nI a
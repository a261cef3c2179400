/-! heaps that are the same but for twins, values, Order's own numbers and arrays of references -/
def or_sm (h h' : zz_H) : Prop := zz_tg h' = zz_tg h ∧ (∀ c j b, c ≠ 5 → ¬ (c = 2 ∧ (j = 5 ∨ j = 6)) → zz_fI h' c j b = zz_fI h c j b) ∧ (∀ b, zz_fI h' 2 5 b = 0 ∨ zz_fI h' 2 5 b = 1 ∨ zz_fI h' 2 5 b = zz_fI h 2 5 b) ∧ (∀ c j b, ¬ (c = 2 ∧ j = 4) → zz_fR h' c j b = zz_fR h c j b) ∧ zz_aI h' = zz_aI h
theorem or_sm_rf (h : zz_H) : or_sm h h := ⟨rfl, fun _ _ _ _ _ => rfl, fun _ => Or.inr (Or.inr rfl), fun _ _ _ _ => rfl, rfl⟩
theorem or_sm_tr {h h1 h2 : zz_H} (a : or_sm h h1) (b : or_sm h1 h2) : or_sm h h2 := ⟨b.1.trans a.1, fun c j d x y => (b.2.1 c j d x y).trans (a.2.1 c j d x y), fun d => by
  rcases b.2.2.1 d with z | z | z
  · exact Or.inl z
  · exact Or.inr (Or.inl z)
  · rw [z]; exact a.2.2.1 d, fun c j d x => (b.2.2.2.1 c j d x).trans (a.2.2.2.1 c j d x), b.2.2.2.2.trans a.2.2.2.2⟩
theorem or_sm_k {h h' : zz_H} (e : or_sm h h') (a : Nat) : sg_k h' a = sg_k h a := congrArg (fun z => z.getD 0) (e.2.2.2.1 2 1 a (by decide))
theorem or_sm_w {h h' : zz_H} (e : or_sm h h') (a : Nat) : sg_w h' a = sg_w h a := congrArg (fun z => z.getD 0) (e.2.2.2.1 2 3 a (by decide))
theorem or_sm_lv {h h' : zz_H} (e : or_sm h h') (a : Nat) : sg_lv h' a = sg_lv h a := by
  rw [sg_lv, sg_lv, or_sm_k e]
  exact e.2.1 1 2 _ (by decide) (by decide)
theorem or_sm_up {h h' : zz_H} (e : or_sm h h') (lv : Int32) : ∀ n a, sg_up h' lv n a = sg_up h lv n a
  | 0, a => rfl
  | n + 1, a => by
    rw [sg_up, sg_up, or_sm_lv e, e.2.2.2.1 2 2 a (by decide)]
    by_cases hl : sg_lv h a ≤ lv
    · rw [if_pos hl, if_pos hl]
    · rw [if_neg hl, if_neg hl]
      cases zz_fR h 2 2 a with
      | none => rfl
      | some b => exact or_sm_up e lv n b
theorem or_sm_at {h h' : zz_H} (e : or_sm h h') (lv : Int32) (a : Nat) : sg_at h' lv a = sg_at h lv a := by
  rw [sg_at, sg_at, or_sm_up e, or_sm_lv e]
theorem or_sm_wf {h h' : zz_H} (e : or_sm h h') (hw : sg_wf h) : sg_wf h' := fun a n ht => by
  rw [e.1] at ht
  obtain ⟨h1, h2, h3, h4⟩ := hw a n ht
  refine ⟨?_, ?_, ?_, ?_⟩
  · rw [or_sm_k e, e.2.2.2.1 2 1 a (by decide)]; exact h1
  · rw [or_sm_w e, e.2.2.2.1 2 3 a (by decide)]; exact h2
  · rw [or_sm_w e, e.1]; exact h3
  · rcases e.2.2.1 a with h5 | h5 | h5
    · exact Or.inl h5
    · exact Or.inr h5
    · rw [h5]; exact h4
theorem or_sm_kw {h h' : zz_H} (e : or_sm h h') (hw : kd_wf h) : kd_wf h' := fun a n ht => by
  rw [e.1] at ht
  obtain ⟨h1, h2⟩ := hw a n ht
  exact ⟨by rw [e.2.1 1 4 a (by decide) (by decide)]; exact h1, by rw [e.2.1 1 3 a (by decide) (by decide)]; exact h2⟩
theorem or_sm_rt {h h' : zz_H} (e : or_sm h h') : ∀ n k, kd_root h' n k = kd_root h n k
  | 0, _ => rfl
  | n + 1, k => by
    rw [kd_root, kd_root, e.2.2.2.1 1 1 k (by decide)]
    cases zz_fR h 1 1 k with
    | none => rfl
    | some b => exact or_sm_rt e n b
theorem or_sm_b {h h' : zz_H} (e : or_sm h h') (a : Nat) : or_b h' a = or_b h a := congrArg (fun z => z.getD 0) (e.2.2.2.1 5 0 a (by decide))
theorem or_sm_n {h h' : zz_H} (e : or_sm h h') (a : Nat) : or_n h' a = or_n h a := congrArg (fun z => z.getD 0) (e.2.2.2.1 5 1 a (by decide))
theorem or_sm_ok {h h' : zz_H} (e : or_sm h h') {a q : Nat} (hok : or_ok h a) (hq : zz_fI h' 5 2 a = nI q) (hq60 : q ≤ 60) : or_ok h' a ∧ or_s h' a = q := by
  have es : or_s h' a = q := by rw [or_s, hq]; exact nI_clamp (by omega)
  refine ⟨⟨?_, ?_, ?_, ?_, ?_, ?_, ?_⟩, es⟩
  · rw [or_sm_b e, e.2.2.2.1 5 0 a (by decide)]; exact hok.1
  · rw [or_sm_n e, e.2.2.2.1 5 1 a (by decide)]; exact hok.2.1
  · rw [or_sm_b e, e.1]; exact hok.2.2.1
  · rw [or_sm_n e, e.1]; exact hok.2.2.2.1
  · rw [or_sm_b e, or_sm_n e]; exact hok.2.2.2.2.1
  · omega
  · rw [es]; exact hq
theorem or_sm_vf {h : zz_H} {y : Nat → Nat → Nat → Int32} (hv : or_vf h y) : or_sm h (or_ry h y) := ⟨rfl, fun c j b _ h2 => hv.1 c j b h2, hv.2, fun _ _ _ _ => rfl, rfl⟩
theorem or_sm_rp (h : zz_H) (x : Nat → Nat → Option Nat) : or_sm h (or_rp h x) := or_sm_rf h
theorem or_sm_AR (a k : Nat) : ∀ n to root h h2, or_AR a k n to root h h2 → or_sm h h2 ∧ or_s h2 a = or_s h a
  | 0, _, _, h, h2, e => by cases (show h2 = h from e); exact ⟨or_sm_rf h, rfl⟩
  | n + 1, to, root, h, h2, e => by
    rcases e with ⟨-, e⟩ | ⟨-, u, -, e⟩
    · cases e; exact ⟨or_sm_rf h, rfl⟩
    · have := or_sm_AR a k n _ _ _ _ e
      exact this
theorem or_sm_cy (h : zz_H) (a : Nat) : or_sm h (or_cy h a) := or_sm_rf h
/-- what arrange leaves as it was -/
theorem or_sm_arr {h h2 : zz_H} {a : Nat} (e : or_arr h a h2) : or_sm h h2 ∧ zz_fI h2 5 = zz_fI h 5 := by
  rcases e with ⟨-, e⟩ | ⟨-, k, sw, y, to, -, -, -, hv, -, har⟩
  · cases e; exact ⟨or_sm_rf h, rfl⟩
  · refine ⟨or_sm_tr (or_sm_cy h a) (or_sm_tr (or_sm_vf hv.1) (or_sm_AR a _ _ _ _ _ _ har).1), ?_⟩
    have e2 : ∀ K n to root h h2, or_AR a K n to root h h2 → zz_fI h2 = zz_fI h := by
      intro K n
      induction n with
      | zero => intro to root h h2 e; cases (show h2 = h from e); rfl
      | succ n ih =>
        intro to root h h2 e
        rcases e with ⟨-, e⟩ | ⟨-, u, -, e⟩
        · cases e; rfl
        · exact (ih _ _ (or_cp h a root to u) h2 e).trans rfl
    rw [e2 _ _ _ _ _ _ har]
    funext j b
    exact hv.1.1 5 j b (fun z => absurd z.1 (by decide))
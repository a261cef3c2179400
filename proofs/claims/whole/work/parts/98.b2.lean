/-! siblings as they stand now -/
section S1
variable {A : aA} {f : aF} {t2 : Nat} {v : Nat → Int64}
theorem s1_off (h0 : f 11 = 0) : s1 A f t2 v = s0 A := by
  funext a b
  apply propext
  have hs : ¬ aSec A f t2 a := fun z => z.2.1 h0
  constructor
  · rintro (z | ⟨e, ⟨z, -⟩ | ⟨-, z⟩⟩)
    · exact Or.inl z
    · exact absurd z hs
    · exact Or.inr ⟨e, z⟩
  · rintro (z | ⟨e, z⟩)
    · exact Or.inl z
    · exact Or.inr ⟨e, Or.inr ⟨hs, z⟩⟩
def aRk (A : aA) (t2 s : Nat) : Prop := A 15 s = nI (aRt A 3 t2)
theorem aP_none {s : Nat} (h : A 16 s = -1) : aP A s = none := if_pos h
theorem aP_none' {s : Nat} (h : aP A s = none) : A 16 s = -1 := by
  by_cases e : A 16 s = -1
  · exact e
  · rw [aP, if_neg e] at h; cases h
theorem s01_two : fo_two (aP A) (aRk A t2) (s0 A) (s1 A f t2 v) := by
  refine ⟨fun a b hn => ?_, fun a a' b h1 h2 h3 => ⟨fun z => ?_, fun z => ?_⟩⟩
  · constructor
    · rintro (z | ⟨e, ⟨z, -⟩ | ⟨-, z⟩⟩)
      · exact Or.inl z
      · exact absurd ⟨aP_none z.1, z.2.2, e.symm.trans z.2.2⟩ hn
      · exact Or.inr ⟨e, z⟩
    · rintro (z | ⟨e, z⟩)
      · exact Or.inl z
      · exact Or.inr ⟨e, Or.inr ⟨fun q => hn ⟨aP_none q.1, q.2.2, e.symm.trans q.2.2⟩, z⟩⟩
  · have e : A 15 a = A 15 a' := h1.trans h2.symm
    rcases z with ⟨z1, z2⟩ | ⟨z, -⟩
    · exact Or.inl ⟨by rw [← e]; exact z1, by rw [← e]; exact z2⟩
    · exact absurd (z.symm.trans h1) h3
  · have e : A 15 a = A 15 a' := h1.trans h2.symm
    rcases z with ⟨z1, z2⟩ | ⟨z, -⟩
    · exact Or.inl ⟨by rw [← e]; exact z1, by rw [← e]; exact z2⟩
    · exact absurd (z.trans h1) h3
theorem s1_sb (hn : aNum A) : fo_sb (aLive A) (aP A) (s1 A f t2 v) := by
  have irr : ∀ x : Int32, ¬ x < x := fun x => Int32.lt_irrefl
  have tr : ∀ {x y z : Int32}, x < y → y < z → x < z := fun h1 h2 => Int32.lt_trans h1 h2
  have irr6 : ∀ x : Int64, ¬ x < x := fun x => Int64.lt_irrefl
  have tr6 : ∀ {x y z : Int64}, x < y → y < z → x < z := fun h1 h2 => Int64.lt_trans h1 h2
  obtain ⟨b1, b2, b3⟩ := s0_sb hn
  have sec : ∀ {a b : Nat}, aP A a = aP A b → A 15 a = A 15 b → aSec A f t2 a → aSec A f t2 b := fun {a b} hp e z => ⟨aP_none' (hp ▸ aP_none z.1), z.2.1, e.symm.trans z.2.2⟩
  refine ⟨fun a ha z => ?_, fun a b ha hb hp hne => ?_, fun a b d ha hb hd hp hp2 z1 z2 => ?_⟩
  · rcases z with ⟨z, -⟩ | ⟨e, ⟨-, ⟨z, -⟩ | ⟨-, z⟩⟩ | ⟨-, z⟩⟩
    · exact z rfl
    · exact z rfl
    · exact irr _ z
    · exact b1 a ha (Or.inr ⟨e, z⟩)
  · by_cases hs : aSec A f t2 a ∧ A 15 a = A 15 b
    · obtain ⟨hs, e⟩ := hs
      have hsb := sec hp e hs
      rcases i64_tri (v a) (v b) with h | h | h
      · exact Or.inl (Or.inr ⟨e, Or.inl ⟨hs, Or.inl ⟨fun z => irr6 _ (z ▸ h), h⟩⟩⟩)
      · rcases i32_tri (A 14 a) (A 14 b) with h9 | h9 | h9
        · exact Or.inl (Or.inr ⟨e, Or.inl ⟨hs, Or.inr ⟨h, h9⟩⟩⟩)
        · exact absurd (hn a b ha hb h9) hne
        · exact Or.inr (Or.inr ⟨e.symm, Or.inl ⟨hsb, Or.inr ⟨h.symm, h9⟩⟩⟩)
      · exact Or.inr (Or.inr ⟨e.symm, Or.inl ⟨hsb, Or.inl ⟨fun z => irr6 _ (z ▸ h), h⟩⟩⟩)
    · have n1 : ∀ e : A 15 a = A 15 b, ¬ aSec A f t2 a := fun e z => hs ⟨z, e⟩
      have n2 : ∀ e : A 15 b = A 15 a, ¬ aSec A f t2 b := fun e z => hs ⟨sec hp.symm e z, e.symm⟩
      rcases b2 a b ha hb hp hne with z | z
      · rcases z with z | ⟨e, z⟩
        · exact Or.inl (Or.inl z)
        · exact Or.inl (Or.inr ⟨e, Or.inr ⟨n1 e, z⟩⟩)
      · rcases z with z | ⟨e, z⟩
        · exact Or.inr (Or.inl z)
        · exact Or.inr (Or.inr ⟨e, Or.inr ⟨n2 e, z⟩⟩)
  · rcases z1 with ⟨n1, z1⟩ | ⟨e1, z1⟩
    · rcases z2 with ⟨n2, z2⟩ | ⟨e2, z2⟩
      · have := tr z1 z2
        exact Or.inl ⟨fun z => irr _ (z ▸ this), this⟩
      · exact Or.inl ⟨by rw [← e2]; exact n1, by rw [← e2]; exact z1⟩
    · rcases z2 with ⟨n2, z2⟩ | ⟨e2, z2⟩
      · exact Or.inl ⟨by rw [e1]; exact n2, by rw [e1]; exact z2⟩
      · rcases z1 with ⟨q1, z1⟩ | ⟨q1, z1⟩
        · rcases z2 with ⟨q2, z2⟩ | ⟨q2, z2⟩
          · refine Or.inr ⟨e1.trans e2, Or.inl ⟨q1, ?_⟩⟩
            rcases z1 with ⟨g1, g2⟩ | ⟨g1, g2⟩
            · rcases z2 with ⟨f1, f2⟩ | ⟨f1, f2⟩
              · have := tr6 g2 f2
                exact Or.inl ⟨fun z => irr6 _ (z ▸ this), this⟩
              · exact Or.inl ⟨by rw [← f1]; exact g1, by rw [← f1]; exact g2⟩
            · rcases z2 with ⟨f1, f2⟩ | ⟨f1, f2⟩
              · exact Or.inl ⟨by rw [g1]; exact f1, by rw [g1]; exact f2⟩
              · exact Or.inr ⟨g1.trans f1, tr g2 f2⟩
          · exact absurd (sec hp e1 q1) q2
        · rcases z2 with ⟨q2, z2⟩ | ⟨q2, z2⟩
          · exact absurd (sec hp.symm e1.symm q2) q1
          · have := b3 a b d ha hb hd hp hp2 (Or.inr ⟨e1, z1⟩) (Or.inr ⟨e2, z2⟩)
            rcases this with ⟨z, -⟩ | ⟨-, z⟩
            · exact absurd (e1.trans e2) z
            · exact Or.inr ⟨e1.trans e2, Or.inr ⟨q1, z⟩⟩
end S1
/-! the relation: what both hold -/
def aS2 (A : aA) (f : aF) (sw t2 : Nat) : Prop := sw < 4 ∧ (f 11 = 0 ∨ f 11 = 1) ∧ ((f 9 = -1 ∧ f 11 = 0) ∨ (t2 < 8 ∧ A 1 t2 ≠ 0 ∧ f 9 = nI t2 ∧ f 10 = nI sw ∧ ∃ ln, ln ≤ 4 ∧ A 4 t2 = nI ln ∧ sw < ln))
def aPp (A : aA) : Prop := ∀ l, 1 ≤ l → l < 5 → (A 22 l = -1 ∧ A 23 l = 0) ∨ ∃ t ln, t < 8 ∧ A 1 t ≠ 0 ∧ A 22 l = nI t ∧ aT A t = l ∧ ln ≤ 4 ∧ A 4 t = nI ln ∧ ∀ k, k < aC A l → aW A (3 * l + k) < ln
def aTt (A : aA) : Prop := ∀ t, t < 8 → A 8 t = -1 ∨ (A 1 t ≠ 0 ∧ ∃ u, u < 8 ∧ A 1 u ≠ 0 ∧ A 8 t = nI u ∧ A 8 u = nI t ∧ A 4 t = A 4 u ∧ A 5 t = A 5 u ∧ A 5 t ≠ -1)
def aTw (A : aA) : Prop := ∀ s, aLive A s → A 17 s = -1 ∨ ∃ b, aLive A b ∧ A 17 s = nI b ∧ A 17 b = nI s ∧ A 8 (aK A s) = nI (aK A b) ∧ ∀ i, nI i < A 4 (aK A s) → i < 4 → A 18 (4 * s + i) = A 18 (4 * b + i)
def aCt (A : aA) (f : aF) (n : Nat) : Prop := ∃ k, k ≤ n ∧ f 12 = nI k ∧ ∀ s, aLive A s → ∃ j, j ≤ k ∧ A 14 s = nI j
def aLn (A : aA) (x : Int32) : Prop := x = -1 ∨ ∃ s, aLive A s ∧ x = nI s
/-- a parent's kind is what stands above the kind -/
def aPk (A : aA) : Prop := ∀ s, aLive A s → (A 16 s = -1 → A 2 (aK A s) = -1) ∧ ∀ p, aLive A p → A 16 s = nI p → A 2 (aK A s) = A 15 p
def aM (A : aA) (f : aF) (n sw t2 : Nat) : Prop := aWl A ∧ aWt A ∧ aKd A ∧ aWp A ∧ aNum A ∧ f 13 = nI (mCnt (aLive A) 60) ∧ aCt A f n ∧ aS2 A f sw t2 ∧ aPp A ∧ aTt A ∧ aTw A ∧ aLn A (f 30) ∧ aLn A (f 31) ∧ aPk A
def pl_sk (h : zz_H) (a : Nat) : Prop := zz_fR h 3 2 a = some (pl_w h a) ∧ zz_fR h 3 3 a = some (pl_o h a) ∧ zz_fR h 3 4 a = some (pl_n h a) ∧ zz_tg h (pl_w h a) = some (90, 3) ∧ zz_tg h (pl_o h a) = some (90, 3) ∧ zz_tg h (pl_n h a) = some (90, 3)
def pl_ap (h : zz_H) (q : Nat) : Prop := ∀ i j, i < 4 → j < 4 → pl_w h (pa_l h q i) ≠ pl_o h (pa_l h q j) ∧ pl_w h (pa_l h q i) ≠ pl_n h (pa_l h q j) ∧ pl_o h (pa_l h q i) ≠ pl_n h (pa_l h q j) ∧ (i ≠ j → pa_l h q i ≠ pa_l h q j ∧ pl_w h (pa_l h q i) ≠ pl_w h (pa_l h q j) ∧ pl_o h (pa_l h q i) ≠ pl_o h (pa_l h q j) ∧ pl_n h (pa_l h q i) ≠ pl_n h (pa_l h q j))
def c_sk (h : zz_H) (x : Nat) : Prop := t_ok h x ∧ (zz_fR h 4 0 (t_pa h x) = some (pa_a h (t_pa h x)) ∧ zz_tg h (pa_a h (t_pa h x)) = some (103, 4) ∧ ∀ i, i < 4 → zz_aR h (pa_a h (t_pa h x)) i = some (pa_l h (t_pa h x) i) ∧ pl_sk h (pa_l h (t_pa h x) i)) ∧ pl_ap h (t_pa h x) ∧ zz_fR h 5 0 (t_od h x) = some (or_b h (t_od h x)) ∧ zz_fR h 5 1 (t_od h x) = some (or_n h (t_od h x)) ∧ zz_tg h (or_b h (t_od h x)) = some (102, 60) ∧ zz_tg h (or_n h (t_od h x)) = some (102, 60) ∧ or_b h (t_od h x) ≠ or_n h (t_od h x)
def c_k1 (h : zz_H) (A : aA) (κ : Nat → Nat) (t : Nat) : Prop := zz_tg h (κ t) = some (1, 0) ∧ zz_fI h 1 0 (κ t) = nI t ∧ zz_fR h 1 1 (κ t) = oS κ (A 2 t) ∧ zz_fI h 1 2 (κ t) = A 3 t ∧ zz_fI h 1 3 (κ t) = A 4 t ∧ zz_fI h 1 4 (κ t) = A 5 t ∧ zz_fI h 1 5 (κ t) = zz_b (A 6 t ≠ 0 ∧ A 5 t ≠ -1) ∧ zz_fI h 1 6 (κ t) = A 7 t ∧ zz_fR h 1 7 (κ t) = oS κ (A 8 t)
def c_kd (h : zz_H) (x : Nat) (A : aA) (κ : Nat → Nat) : Prop := (∀ t, t < 8 → (A 1 t = 0 → zz_aR h (t_kd h x) t = none) ∧ (A 1 t ≠ 0 → zz_aR h (t_kd h x) t = some (κ t) ∧ c_k1 h A κ t)) ∧ ∀ k n, zz_tg h k = some (1, n) → ∃ t, t < 8 ∧ A 1 t ≠ 0 ∧ k = κ t
def c_s1 (h : zz_H) (A : aA) (σ κ : Nat → Nat) (s : Nat) : Prop := zz_tg h (σ s) = some (2, 0) ∧ zz_fI h 2 0 (σ s) = A 14 s ∧ zz_fR h 2 1 (σ s) = some (κ (aK A s)) ∧ zz_fR h 2 2 (σ s) = oS σ (A 16 s) ∧ zz_fR h 2 4 (σ s) = oS σ (A 17 s) ∧ ∀ i, i < 4 → nI i < A 4 (aK A s) → zz_aI h (sg_w h (σ s)) i = A 18 (4 * s + i)
def c_sp (h : zz_H) (x m27 : Nat) : Prop := t_ww h x ≠ m27 ∧ (∀ a n, zz_tg h a = some (2, n) → sg_w h a ≠ m27 ∧ sg_w h a ≠ t_ww h x) ∧ ∀ a b n n', zz_tg h a = some (2, n) → zz_tg h b = some (2, n') → a ≠ b → sg_w h a ≠ sg_w h b
def c_sg (h : zz_H) (A : aA) (σ κ : Nat → Nat) : Prop := sg_wf h ∧ (∀ a n, zz_tg h a = some (2, n) → ∃ t, t < 8 ∧ A 1 t ≠ 0 ∧ zz_fR h 2 1 a = some (κ t)) ∧ ∀ s, aLive A s → c_s1 h A σ κ s
def c_p1 (h : zz_H) (A : aA) (κ : Nat → Nat) (a l : Nat) : Prop := zz_fR h 3 0 a = oS κ (A 22 l) ∧ zz_fI h 3 1 a = A 23 l ∧ ∀ i, i < aC A l → zz_aI h (pl_w h a) i = A 24 (3 * l + i) ∧ zz_aI h (pl_o h a) i = A 25 (3 * l + i) ∧ zz_aI h (pl_n h a) i = A 26 (3 * l + i)
def c_pa (h : zz_H) (x : Nat) (A : aA) (κ : Nat → Nat) : Prop := ∀ l, l < 4 → c_p1 h A κ (pa_l h (t_pa h x) l) (l + 1)
def c_wk (h : zz_H) (x : Nat) (A : aA) : Prop := ∀ i, i < 4 → zz_aI h (t_ww h x) i = A 27 i
def c_or (h : zz_H) (x : Nat) (A : aA) (f : aF) (σ : Nat → Nat) (LB LN : List Nat) (sw t2 : Nat) : Prop := zz_fI h 5 2 (t_od h x) = nI LB.length ∧ LN.length = LB.length ∧ (∀ i e, LB[i]? = some e → zz_aR h (or_b h (t_od h x)) i = some (σ e)) ∧ (∀ i e, LN[i]? = some e → zz_aR h (or_n h (t_od h x)) i = some (σ e)) ∧ (∀ e, e ∈ LB ↔ aLive A e) ∧ (∀ e, e ∈ LN ↔ aLive A e) ∧ LB.Pairwise (fo_R (aLive A) (aP A) (s0 A)) ∧ ∀ v, PV A f sw v → LN.Pairwise (fo_R (aLive A) (aP A) (s1 A f t2 v))
def c_po (h : zz_H) (x : Nat) (A : aA) (f : aF) (σ : Nat → Nat) : Prop := (f 28 = 0 ∧ zz_fR h 6 0 (t_ps h x) = none ∧ zz_fI h 6 1 (t_ps h x) = 0 ∧ zz_fI h 6 2 (t_ps h x) = 0) ∨ (f 28 = 1 ∧ ∃ w, aLive A w ∧ f 29 = nI w ∧ zz_fR h 6 0 (t_ps h x) = some (σ w) ∧ zz_fI h 6 1 (t_ps h x) = 1) ∨ (f 28 = 2 ∧ ∃ w, aLive A w ∧ f 29 = nI w ∧ zz_fR h 6 0 (t_ps h x) = some (σ w) ∧ zz_fI h 6 1 (t_ps h x) = 0) ∨ (f 28 = 3 ∧ zz_fR h 6 0 (t_ps h x) = none ∧ zz_fI h 6 1 (t_ps h x) = 0 ∧ zz_fI h 6 2 (t_ps h x) = 1)
def c_rs (h : zz_H) (x : Nat) (f : aF) (σ κ : Nat → Nat) : Prop := zz_fI h 0 7 x = f 12 ∧ zz_fR h 5 3 (t_od h x) = oS κ (f 9) ∧ (f 9 ≠ -1 → zz_fI h 5 4 (t_od h x) = f 10) ∧ zz_fI h 5 5 (t_od h x) = f 11 ∧ zz_fR h 0 5 x = oS σ (f 30) ∧ zz_fR h 0 6 x = oS σ (f 31)
/-- the class's object x holds A and f -/
def CA (h : zz_H) (x m27 : Nat) (A : aA) (f : aF) (σ κ : Nat → Nat) (LB LN : List Nat) (sw t2 : Nat) : Prop := c_sk h x ∧ c_sp h x m27 ∧ c_kd h x A κ ∧ c_sg h A σ κ ∧ c_pa h x A κ ∧ c_wk h x A ∧ c_or h x A f σ LB LN sw t2 ∧ c_po h x A f σ ∧ c_rs h x f σ κ
def Rel (n : Nat) (h : zz_H) (x r u : Nat) : Prop := mo_ok h r ∧ mo_ap h r ∧ zz_tg h u = some (92, 1) ∧ ∃ σ κ LB LN sw t2, aM (mA h r) (mQ h r) n sw t2 ∧ CA h x (mf h r 27) (mA h r) (mQ h r) σ κ LB LN sw t2
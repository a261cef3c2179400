/-! the reference: delete -/
def mG (h : zz_H) (r top s : Nat) : Prop := mLive h r s ∧ (s = top ∨ mBo h r top 3 (mP h r s))
noncomputable def mo_gx (k : zz_H) (r top i : Nat) : Nat → Nat → Int32 := fun b j => @ite _ (b = mf k r 21 ∧ j < i) (Classical.propDecidable _) (zz_b (mG k r top j)) (zz_aI k b j)
noncomputable def mo_gs (k : zz_H) (r top i : Nat) : zz_H := mo_rx k (mo_gx k r top i)
theorem mo_gs_0 (k : zz_H) (r top : Nat) : mo_gs k r top 0 = k := by
  have e : mo_gx k r top 0 = zz_aI k := by
    funext b j
    rw [mo_gx, if_neg (fun z => absurd z.2 (by omega))]
  rw [mo_gs, e]; rfl
theorem mo_gx_a {k : zz_H} {r top i : Nat} {b : Nat} (hb : b ≠ mf k r 21) (j : Nat) : mo_gx k r top i b j = zz_aI k b j := by
  rw [mo_gx, if_neg (fun z => hb z.1)]
theorem mo_gs_s (k : zz_H) (r top i : Nat) : zz_sI (mo_gs k r top i) (mf k r 21) i (zz_b (mG k r top i)) = mo_gs k r top (i + 1) := by
  show mo_rx k _ = mo_rx k _
  congr 1
  funext b j
  show (if b = mf k r 21 ∧ j = i then zz_b (mG k r top i) else mo_gx k r top i b j) = mo_gx k r top (i + 1) b j
  by_cases h1 : b = mf k r 21 ∧ j = i
  · rw [if_pos h1, mo_gx, if_pos ⟨h1.1, by omega⟩, h1.2]
  · rw [if_neg h1, mo_gx, mo_gx]
    by_cases h2 : b = mf k r 21 ∧ j < i
    · rw [if_pos h2, if_pos ⟨h2.1, by omega⟩]
    · rw [if_neg h2, if_neg (fun z => h2 ⟨z.1, by have := fun w => h1 ⟨z.1, w⟩; omega⟩)]
theorem mo_gs_sd {k : zz_H} {r top i : Nat} (hap : mo_ap k r) : mo_sd r 21 k (mo_gs k r top i) := mo_sd_rx (by decide) (by decide) hap (fun _ j hb => mo_gx_a hb j)
theorem mCnt_s (P : Nat → Prop) (i : Nat) (hP : P i) : mCnt P (i + 1) = mCnt P i + 1 := by rw [mCnt, if_pos hP]
theorem mCnt_n (P : Nat → Prop) (i : Nat) (hP : ¬ P i) : mCnt P (i + 1) = mCnt P i := by rw [mCnt, if_neg hP]
theorem zz_sI_at (h : zz_H) (a i : Nat) (v : Int32) : zz_aI (zz_sI h a i v) a i = v := if_pos ⟨rfl, rfl⟩
theorem zz_pI_at (h : zz_H) (x : Nat → Nat → Int32) (ci k a : Nat) (v : Int32) : zz_fI (mo_rx (zz_pI h ci k a v) x) ci k a = v := if_pos ⟨rfl, rfl, rfl⟩
theorem zz_pI_pI (h : zz_H) (x : Nat → Nat → Int32) (ci k a : Nat) (v w : Int32) : zz_pI (mo_rx (zz_pI h ci k a v) x) ci k a w = mo_rx (zz_pI h ci k a w) x := by
  show ((h.1, _, _) : zz_H) = (h.1, _, _)
  congr 2
  funext c j b
  show (if c = ci ∧ j = k ∧ b = a then w else if c = ci ∧ j = k ∧ b = a then v else h.2.1 c j b) = (if c = ci ∧ j = k ∧ b = a then w else h.2.1 c j b)
  by_cases h1 : c = ci ∧ j = k ∧ b = a
  · rw [if_pos h1, if_pos h1]
  · rw [if_neg h1, if_neg h1, if_neg h1]
theorem zz_pI_id (h : zz_H) (ci k a : Nat) : zz_pI h ci k a (zz_fI h ci k a) = h := by
  show ((h.1, _, _) : zz_H) = h
  have : (fun c j b => if c = ci ∧ j = k ∧ b = a then zz_fI h ci k a else h.2.1 c j b) = h.2.1 := by
    funext c j b
    by_cases h1 : c = ci ∧ j = k ∧ b = a
    · rw [if_pos h1, h1.1, h1.2.1, h1.2.2]; rfl
    · rw [if_neg h1]
  rw [this]
theorem mo_rx_rx (h : zz_H) (x : Nat → Nat → Int32) (ci k a : Nat) (v : Int32) : zz_pI (mo_rx h x) ci k a v = mo_rx (zz_pI h ci k a v) x := rfl
/-- the twins of live segments are live, and theirs -/
def mo_tw (k : zz_H) (r : Nat) : Prop := ∀ s, mLive k r s → ma k r 17 s = -1 ∨ ∃ b, mLive k r b ∧ ma k r 17 s = nI b ∧ ma k r 17 b = nI s
def mo_di (k : zz_H) (r : Nat) (G : Nat → Prop) (i : Nat) (x : Nat → Nat → Int32) (v : Int32) : Prop :=
  (∀ b, b ≠ mf k r 14 → b ≠ mf k r 17 → b ≠ mf k r 21 → ∀ j, x b j = zz_aI k b j) ∧ (∀ s, s < 60 → x (mf k r 21) s = zz_b (G s)) ∧
  (∀ s, s < 60 → (s < i ∧ G s ∧ x (mf k r 14) s = 0) ∨ (¬ (s < i ∧ G s) ∧ x (mf k r 14) s = ma k r 14 s)) ∧
  (∀ b, b < 60 → ¬ G b → ((∃ s, s < i ∧ G s ∧ ma k r 17 s = nI b) ∧ x (mf k r 17) b = -1) ∨ ((¬ ∃ s, s < i ∧ G s ∧ ma k r 17 s = nI b) ∧ x (mf k r 17) b = ma k r 17 b)) ∧
  (∀ b, b < 60 → G b → i ≤ b → x (mf k r 17) b = ma k r 17 b ∨ (x (mf k r 17) b = -1 ∧ ∃ s, s < i ∧ G s ∧ ma k r 17 s = nI b)) ∧
  ((v = -1 ∧ ∃ s, s < i ∧ G s ∧ zz_fI k 7 31 r = nI s) ∨ (v = zz_fI k 7 31 r ∧ ¬ ∃ s, s < i ∧ G s ∧ zz_fI k 7 31 r = nI s))
theorem ex_next {P : Nat → Prop} {i : Nat} (hi : ¬ P i) : (∃ s, s < i + 1 ∧ P s) ↔ ∃ s, s < i ∧ P s := by
  refine ⟨fun ⟨a, h1, h2⟩ => ⟨a, ?_, h2⟩, fun ⟨a, h1, h2⟩ => ⟨a, by omega, h2⟩⟩
  rcases Nat.lt_succ_iff_lt_or_eq.mp h1 with h1 | rfl
  · exact h1
  · exact absurd h2 hi
section DI
variable {k : zz_H} {r i : Nat} {G : Nat → Prop} {x : Nat → Nat → Int32} {v : Int32}
theorem mo_di_0 {top : Nat} (hap : mo_ap k r) : mo_di k r (mG k r top) 0 (mo_gx k r top 60) (zz_fI k 7 31 r) := by
  refine ⟨fun b _ _ hb j => mo_gx_a hb j, fun s hs => ?_, fun s hs => Or.inr ⟨fun z => absurd z.1 (by omega), mo_gx_a (hap 14 21 (by decide) (by decide) (by decide)) s⟩, fun b hb _ => Or.inr ⟨fun ⟨a, z, _⟩ => absurd z (by omega), mo_gx_a (hap 17 21 (by decide) (by decide) (by decide)) b⟩, fun b hb _ _ => Or.inl (mo_gx_a (hap 17 21 (by decide) (by decide) (by decide)) b), Or.inr ⟨rfl, fun ⟨a, z, _⟩ => absurd z (by omega)⟩⟩
  rw [mo_gx, if_pos ⟨rfl, hs⟩]
theorem mo_di_skip (hd : mo_di k r G i x v) (hi : ¬ G i) : mo_di k r G (i + 1) x v := by
  obtain ⟨h1, h2, h3, h4, h5, h6⟩ := hd
  have e : ∀ Q : Nat → Prop, (∃ s, s < i + 1 ∧ G s ∧ Q s) ↔ ∃ s, s < i ∧ G s ∧ Q s := fun Q => ex_next (P := fun s => G s ∧ Q s) (fun z => hi z.1)
  refine ⟨h1, h2, fun s hs => ?_, fun b hb hg => ?_, fun b hb hg hi => ?_, ?_⟩
  · rcases h3 s hs with ⟨g1, g2, g3⟩ | ⟨g1, g2⟩
    · exact Or.inl ⟨by omega, g2, g3⟩
    · refine Or.inr ⟨fun z => g1 ⟨?_, z.2⟩, g2⟩
      rcases Nat.lt_succ_iff_lt_or_eq.mp z.1 with z1 | z1
      · exact z1
      · exact absurd (z1 ▸ z.2) hi
  · rw [e]; exact h4 b hb hg
  · rw [e]; exact h5 b hb hg (by omega)
  · rw [e]; exact h6
theorem mo_di_fx {w : Int32} (hw : (v = nI i ∧ w = -1) ∨ (v ≠ nI i ∧ w = v)) (hi : G i) (i60 : i < 60) (h6 : (v = -1 ∧ ∃ s, s < i ∧ G s ∧ zz_fI k 7 31 r = nI s) ∨ (v = zz_fI k 7 31 r ∧ ¬ ∃ s, s < i ∧ G s ∧ zz_fI k 7 31 r = nI s)) : (w = -1 ∧ ∃ s, s < i + 1 ∧ G s ∧ zz_fI k 7 31 r = nI s) ∨ (w = zz_fI k 7 31 r ∧ ¬ ∃ s, s < i + 1 ∧ G s ∧ zz_fI k 7 31 r = nI s) := by
  rcases h6 with ⟨e, a, g1, g2⟩ | ⟨e, g⟩
  · refine Or.inl ⟨?_, a, by omega, g2⟩
    rcases hw with ⟨hv, ew⟩ | ⟨hv, ew⟩
    · exact ew
    · exact ew.trans e
  · rcases hw with ⟨hv, ew⟩ | ⟨hv, ew⟩
    · exact Or.inl ⟨ew, i, by omega, hi, by rw [← e]; exact hv⟩
    · refine Or.inr ⟨ew.trans e, fun z => g ?_⟩
      exact (ex_next (P := fun s => G s ∧ zz_fI k 7 31 r = nI s) (fun w => hv (by rw [e]; exact w.2))).mp z
theorem mo_di_go (hap : mo_ap k r) (hG : ∀ s, G s → mLive k r s) (htw : mo_tw k r) (hd : mo_di k r G i x v) (hi : G i) (i60 : i < 60) (hx : x (mf k r 17) i = -1) {w : Int32} (hw : (v = nI i ∧ w = -1) ∨ (v ≠ nI i ∧ w = v)) : mo_di k r G (i + 1) (fun b j => if b = mf k r 14 ∧ j = i then 0 else x b j) w := by
  obtain ⟨h1, h2, h3, h4, h5, h6⟩ := hd
  have n1 : mf k r 21 ≠ mf k r 14 := hap 21 14 (by decide) (by decide) (by decide)
  have n2 : mf k r 17 ≠ mf k r 14 := hap 17 14 (by decide) (by decide) (by decide)
  have hno : ∀ b, b < 60 → ¬ G b → ¬ ma k r 17 i = nI b := fun b hb hg z => by
    rcases h5 i i60 hi (Nat.le_refl _) with e | ⟨-, a, a1, a2, a3⟩
    · rw [← e, hx] at z; exact nI_neg (by omega) z.symm
    · rcases htw a (hG a a2) with e | ⟨c, c1, c2, c3⟩
      · exact nI_neg (by omega) (a3.symm.trans e)
      · have ec : c = i := nI_eqI9 (by have := c1.1; omega) (by omega) (c2.symm.trans a3)
        have : a = b := nI_eqI9 (by omega) (by omega) ((ec ▸ c3).symm.trans z)
        exact hg (this ▸ a2)
  refine ⟨fun b b1 b2 b3 j => by dsimp only; rw [if_neg (fun z => b1 z.1)]; exact h1 b b1 b2 b3 j, fun s hs => by dsimp only; rw [if_neg (fun z => n1 z.1)]; exact h2 s hs, fun s hs => ?_, fun b hb hg => ?_, fun b hb hg hib => ?_, mo_di_fx hw hi i60 h6⟩ <;> dsimp only
  · by_cases es : s = i
    · rw [if_pos ⟨rfl, es⟩]; exact Or.inl ⟨by omega, es ▸ hi, rfl⟩
    · rw [if_neg (fun z => es z.2)]
      rcases h3 s hs with ⟨g1, g2, g3⟩ | ⟨g1, g2⟩
      · exact Or.inl ⟨by omega, g2, g3⟩
      · exact Or.inr ⟨fun z => g1 ⟨by omega, z.2⟩, g2⟩
  · rw [if_neg (fun z => n2 z.1), ex_next (P := fun s => G s ∧ ma k r 17 s = nI b) (fun z => hno b hb hg z.2)]
    exact h4 b hb hg
  · rw [if_neg (fun z => n2 z.1)]
    rcases h5 b hb hg (by omega) with e | ⟨e, a, a1, a2⟩
    · exact Or.inl e
    · exact Or.inr ⟨e, a, by omega, a2⟩
theorem mo_di_tw {b9 : Nat} (hap : mo_ap k r) (hd : mo_di k r G i x v) (hi : G i) (i60 : i < 60) (hb60 : b9 < 60) (hx : ma k r 17 i = nI b9) {w : Int32} (hw : (v = nI i ∧ w = -1) ∨ (v ≠ nI i ∧ w = v)) : mo_di k r G (i + 1) (fun b j => if b = mf k r 17 ∧ j = b9 then -1 else if b = mf k r 14 ∧ j = i then 0 else x b j) w := by
  obtain ⟨h1, h2, h3, h4, h5, h6⟩ := hd
  have n1 : mf k r 21 ≠ mf k r 14 := hap 21 14 (by decide) (by decide) (by decide)
  have n2 : mf k r 17 ≠ mf k r 14 := hap 17 14 (by decide) (by decide) (by decide)
  have n3 : mf k r 21 ≠ mf k r 17 := hap 21 17 (by decide) (by decide) (by decide)
  refine ⟨fun b b1 b2 b3 j => by dsimp only; rw [if_neg (fun z => b2 z.1), if_neg (fun z => b1 z.1)]; exact h1 b b1 b2 b3 j, fun s hs => by dsimp only; rw [if_neg (fun z => n3 z.1), if_neg (fun z => n1 z.1)]; exact h2 s hs, fun s hs => ?_, fun b hb hg => ?_, fun b hb hg hib => ?_, mo_di_fx hw hi i60 h6⟩ <;> dsimp only
  · rw [if_neg (fun z => n2 z.1.symm)]
    by_cases es : s = i
    · rw [if_pos ⟨rfl, es⟩]; exact Or.inl ⟨by omega, es ▸ hi, rfl⟩
    · rw [if_neg (fun z => es z.2)]
      rcases h3 s hs with ⟨g1, g2, g3⟩ | ⟨g1, g2⟩
      · exact Or.inl ⟨by omega, g2, g3⟩
      · exact Or.inr ⟨fun z => g1 ⟨by omega, z.2⟩, g2⟩
  · by_cases eb : b = b9
    · rw [if_pos ⟨rfl, eb⟩]
      exact Or.inl ⟨⟨i, by omega, hi, by rw [eb]; exact hx⟩, rfl⟩
    · rw [if_neg (fun z => eb z.2), if_neg (fun z => n2 z.1), ex_next (P := fun s => G s ∧ ma k r 17 s = nI b) (fun z => eb (nI_eqI9 (by omega) (by omega) (z.2.symm.trans hx)))]
      exact h4 b hb hg
  · by_cases eb : b = b9
    · rw [if_pos ⟨rfl, eb⟩]
      exact Or.inr ⟨rfl, i, by omega, hi, by rw [eb]; exact hx⟩
    · rw [if_neg (fun z => eb z.2), if_neg (fun z => n2 z.1)]
      rcases h5 b hb hg (by omega) with e | ⟨e, a, a1, a2⟩
      · exact Or.inl e
      · exact Or.inr ⟨e, a, by omega, a2⟩
theorem mo_di_b (hd : mo_di k r G i x v) (hG : ∀ s, G s → mLive k r s) (htw : mo_tw k r) (hi : G i) (i60 : i < 60) (hx : ¬ x (mf k r 17) i = -1) : ∃ b, b < 60 ∧ x (mf k r 17) i = nI b ∧ ma k r 17 i = nI b := by
  have e := (hd.2.2.2.2.1 i i60 hi (Nat.le_refl _)).resolve_right (fun z => hx z.1)
  rcases htw i (hG i hi) with z | ⟨b, z1, z2, -⟩
  · exact absurd (e.trans z) hx
  · exact ⟨b, z1.1, e.trans z2, z2⟩
end DI
theorem mG_0 {P : Prop} (hP : ¬ P) : (0 : Int32) = zz_b P := (if_neg hP).symm
theorem mG_1 {P : Prop} (hP : P) : (1 : Int32) = zz_b P := (if_pos hP).symm
theorem mo_gs_at (k : zz_H) (r top i : Nat) : zz_aI (mo_gs k r top (i + 1)) (mf k r 21) i = zz_b (mG k r top i) := if_pos ⟨rfl, Nat.lt_succ_self i⟩
theorem mo_sm_tw {r : Nat} {h h' : zz_H} (e : mo_sm r h h') (hw : mo_tw h r) : mo_tw h' r := fun s hs => by
  rw [mo_sm_L e] at hs
  rw [mo_sm_a e 17 (by decide) (by decide)]
  refine (hw s hs).elim Or.inl (fun ⟨b, h1, h2, h3⟩ => Or.inr ⟨b, by rw [mo_sm_L e]; exact h1, h2, by rw [mo_sm_a e 17 (by decide) (by decide)]; exact h3⟩)
def mo_dh (k : zz_H) (r : Nat) (hw wh v : Int32) (x : Nat → Nat → Int32) : zz_H := mo_rx (zz_pI (zz_pI (zz_pI k 7 28 r hw) 7 29 r wh) 7 31 r v) x
def mo_df (k : zz_H) (r fr n ln : Nat) (v : Int32) (x : Nat → Nat → Int32) : zz_H := zz_pI (mo_dh k r (if fr + n < ln then 2 else 3) (if fr + n < ln then ma k r 19 (fr + n) else -1) v x) 7 13 r (nI ln - nI n)
theorem mo_df_1 {k : zz_H} {r fr n ln : Nat} {v hw : Int32} {x : Nat → Nat → Int32} {P : zz_H → Prop} (e : hw = if fr + n < ln then 2 else 3) (h1 : fr + n < ln) (hp : P (mo_df k r fr n ln v x)) : P (zz_pI (mo_dh k r hw (ma k r 19 (fr + n)) v x) 7 13 r (nI ln - nI n)) := by
  rw [mo_df, if_pos h1, if_pos h1] at hp
  rw [e, if_pos h1]; exact hp
theorem mo_df_0 {k : zz_H} {r fr n ln : Nat} {v hw : Int32} {x : Nat → Nat → Int32} {P : zz_H → Prop} (e : hw = if fr + n < ln then 2 else 3) (h1 : ¬ fr + n < ln) (hp : P (mo_df k r fr n ln v x)) : P (zz_pI (mo_dh k r hw (-1) v x) 7 13 r (nI ln - nI n)) := by
  rw [mo_df, if_neg h1, if_neg h1] at hp
  rw [e, if_neg h1]; exact hp
theorem mo_dh_fx (k : zz_H) (r : Nat) (hw wh v : Int32) (x : Nat → Nat → Int32) (a i : Nat) (z : Int32) : zz_fI (zz_sI (mo_dh k r hw wh v x) a i z) 7 31 r = v := if_pos ⟨rfl, rfl, rfl⟩
theorem mo_dh_put (k : zz_H) (r : Nat) (hw wh v : Int32) (x : Nat → Nat → Int32) (a i : Nat) (z w : Int32) : zz_pI (zz_sI (mo_dh k r hw wh v x) a i z) 7 31 r w = mo_dh k r hw wh w (fun b j => if b = a ∧ j = i then z else x b j) := zz_pI_pI (zz_pI (zz_pI k 7 28 r hw) 7 29 r wh) (fun b j => if b = a ∧ j = i then z else x b j) 7 31 r v w
theorem mo_dh_0 (k : zz_H) (r : Nat) (hw wh : Int32) (x : Nat → Nat → Int32) : mo_dh k r hw wh (zz_fI k 7 31 r) x = zz_pI (zz_pI (mo_rx k x) 7 28 r hw) 7 29 r wh := by
  have e := zz_pI_id (zz_pI (zz_pI k 7 28 r hw) 7 29 r wh) 7 31 r
  have e2 : zz_fI (zz_pI (zz_pI k 7 28 r hw) 7 29 r wh) 7 31 r = zz_fI k 7 31 r := rfl
  rw [e2] at e
  rw [mo_dh, e]; rfl

def T_M_delete : zz_Tr := fun as h post => ∃ r g sw t2, as = [zz_r 7 (some r)] ∧ mo_W h r sw t2 ∧ zz_fI h 7 30 r = mO g ∧ (g = none → post (some (zz_i 0)) (zz_pI (mo_bg h r) 7 0 r 1)) ∧ ∀ top, g = some top → mLive h r top ∧ mo_tw h r ∧ ∀ y Ls x, mo_Sd (mo_bg h r) r sw t2 y Ls x → ∃ fr, mIx (mo_so (mo_bg h r) y x) r top fr ∧ ∀ x9 v, mo_di (mo_so (mo_bg h r) y x) r (mG (mo_so (mo_bg h r) y x) r top) 60 x9 v → post (some (zz_i (nI (mCnt (mG (mo_so (mo_bg h r) y x) r top) 60)))) (mo_df (mo_so (mo_bg h r) y x) r fr (mCnt (mG (mo_so (mo_bg h r) y x) r top) 60) Ls.length v x9)
set_option maxRecDepth 100000 in
set_option maxHeartbeats 4000000 in
theorem m_M_delete (l : Launch) : zz_Met l y_M_delete w_M_delete { frames := 5, cells := 0, slots := 0, locals := 108 } T_M_delete := by
  refine zz_ofZ (by decide) (fun as h post hT => ?_) ?_
  · obtain ⟨r, g, sw, t2, rfl, hW, hg, hp0, hpp⟩ := hT
    exact ⟨by simp [zz_cat], by simp⟩
  · intro D DA h as post hT p e s m args below meth c Q C hr hlk hnm hQ
    obtain ⟨r, g, sw, t2, rfl, hW, hg, hp0, hpp⟩ := hT
    have lp152 : ∀ y Ls x top fr, mo_Sd (mo_bg h r) r sw t2 y Ls x → g = some top → mIx (mo_so (mo_bg h r) y x) r top fr → ∀ hw wh, (∀ x9 v, mo_di (mo_so (mo_bg h r) y x) r (mG (mo_so (mo_bg h r) y x) r top) 60 x9 v → post (some (zz_i (nI (mCnt (mG (mo_so (mo_bg h r) y x) r top) 60)))) (zz_pI (mo_dh (mo_so (mo_bg h r) y x) r hw wh v x9) 7 13 r (nI Ls.length - nI (mCnt (mG (mo_so (mo_bg h r) y x) r top) 60)))) → ∀ n i x9 v, 61 ≤ n + i → i ≤ 60 → mo_di (mo_so (mo_bg h r) y x) r (mG (mo_so (mo_bg h r) y x) r top) i x9 v → zz_Z p l e { frames := 5, cells := 0, slots := 0, locals := 108 } s m args below meth c Q D DA (zz_A h s.heap.size) h 5 152 [some (zz_r 7 (some r)), some (zz_i (nI top)), some (zz_i (nI fr)), some (zz_i (nI (mCnt (mG (mo_so (mo_bg h r) y x) r top) 60))), some (zz_i (nI i))] [] (mo_dh (mo_so (mo_bg h r) y x) r hw wh v x9) 0 0 := by
      intro y Ls x top fr hS hg9 hix hw wh hpx n
      have hS0 := hS
      have hW0 : mo_W (mo_bg h r) r sw t2 := hW
      have hok := hW.2.2.1
      have hap : mo_ap (mo_so (mo_bg h r) y x) r := hW.2.2.2.1
      have hl60 := mo_so_60 hS
      have hwl := mo_so_wl hW0 hS
      have hmn := mo_so_n hW0 hS
      have hlv := mo_sm_L (mo_so_sm hW0 hS)
      have hfr := hix.1
      have n17 : mf h r 17 ≠ mf h r 14 := hap 17 14 (by decide) (by decide) (by decide)
      have htwK : mo_tw (mo_so (mo_bg h r) y x) r := mo_sm_tw (mo_so_sm hW0 hS) (hpp top hg9).2.1
      have hsd := fun j => mo_gs_sd (k := (mo_so (mo_bg h r) y x)) (r := r) (top := top) (i := j) hap
      have hn60 := mCnt_le (mG (mo_so (mo_bg h r) y x) r top) 60
      have ht60 := (hpp top hg9).1.1
      induction n with
      | zero =>
        intro i x9 v hn hi
        exact absurd hn (by omega)
      | succ n ih =>
        intro i x9 v hn hile hd
        refine zz_iload (q := 154) (i := 4) C (by decide +kernel) rfl rfl ?_
        refine zz_bipush (q := 156) (n := 60) (x := 60) C (by decide +kernel) rfl (by decide +kernel) ?_
        refine zz_icmp_ge (off := 72) (tgt := 228) (q := 159) C (by decide +kernel) (by decide) rfl (fun c156 => ?_) (fun c156 => ?_)
        · have he : i = 60 := by
            have := (nI_leI (a := 60) (b := i) (by decide) (by omega)).mp c156
            omega
          rw [he] at hd
          refine zz_aload_n (q := 229) (f := 0) (i := 0) C (by decide +kernel) rfl rfl rfl ?_
          refine zz_aload_n (q := 230) (f := 0) (i := 0) C (by decide +kernel) rfl rfl rfl ?_
          refine zz_getI (q := 233) C gf_M_153 (by decide +kernel) rfl (by first | rfl | assumption) hmn ?_
          refine zz_iload_n (q := 234) (f := 3) (i := 3) C (by decide +kernel) rfl rfl rfl ?_
          refine zz_isub (q := 235) C (by decide +kernel) rfl rfl ?_
          refine zz_putI (q := 238) C gf_M_153 (fun h => by cases h) (fun h => by cases h) (by decide +kernel) rfl (by first | rfl | assumption) ?_
          refine zz_iload_n (q := 239) (f := 3) (i := 3) C (by decide +kernel) rfl rfl rfl ?_
          refine zz_iret C hr hlk (by decide +kernel) hQ (by decide) (by decide) ?_
          exact hpx _ _ hd
        · have hi : i < 60 := Nat.lt_of_not_le (fun z => c156 (nI_le (a := 60) z (by omega)))
          refine zz_aload_n (q := 160) (f := 0) (i := 0) C (by decide +kernel) rfl rfl rfl ?_
          refine zz_getR (q := 163) C gf_M_61 (by decide +kernel) rfl (by first | rfl | assumption) (hok 21 91 60 rfl).1 ?_
          refine zz_iload (q := 165) (i := 4) C (by decide +kernel) rfl rfl ?_
          refine zz_baload (q := 166) C (by decide +kernel) rfl rfl (hok 21 91 60 rfl).2 rfl (by omega) (by decide) (hd.2.1 i hi) ?_
          refine zz_if_eq (off := 56) (tgt := 222) (q := 169) C (by decide +kernel) (by decide) rfl (fun c166 => ?_) (fun c166 => ?_)
          · refine zz_iinc (q := 225) (i := 4) (n := 1) C (by decide +kernel) rfl rfl (nI_1 _) (by decide) rfl ?_
            refine zz_goto (off := -73) (tgt := 152) C (by decide +kernel) (by decide) ?_
            -- AT 152
            first
              | exact ih (i + 1) x9 v (by omega) (by omega) (mo_di_skip hd (zz_b_f c166))
              | exact ih (i + 1) (fun b j => if b = mf h r 17 ∧ j = b9 then -1 else if b = mf h r 14 ∧ j = i then 0 else x9 b j) _ (by omega) (by omega) (mo_di_tw hap hd hgi hi hb60 hmb (Or.inl ⟨c184, rfl⟩))
              | exact ih (i + 1) (fun b j => if b = mf h r 17 ∧ j = b9 then -1 else if b = mf h r 14 ∧ j = i then 0 else x9 b j) _ (by omega) (by omega) (mo_di_tw hap hd hgi hi hb60 hmb (Or.inr ⟨c184, rfl⟩))
              | exact ih (i + 1) (fun b j => if b = mf h r 14 ∧ j = i then 0 else x9 b j) _ (by omega) (by omega) (mo_di_go hap (fun s z => z.1) htwK hd hgi hi c206 (Or.inl ⟨c184, rfl⟩))
              | exact ih (i + 1) (fun b j => if b = mf h r 14 ∧ j = i then 0 else x9 b j) _ (by omega) (by omega) (mo_di_go hap (fun s z => z.1) htwK hd hgi hi c206 (Or.inr ⟨c184, rfl⟩))
          · have hgi : mG (mo_so (mo_bg h r) y x) r top i := zz_b_t c166
            refine zz_aload_n (q := 170) (f := 0) (i := 0) C (by decide +kernel) rfl rfl rfl ?_
            refine zz_getR (q := 173) C gf_M_39 (by decide +kernel) rfl (by first | rfl | assumption) (hok 14 90 60 rfl).1 ?_
            refine zz_iload (q := 175) (i := 4) C (by decide +kernel) rfl rfl ?_
            refine zz_iconst (q := 176) (n := 0) (x := 0) C (by decide +kernel) rfl (by decide +kernel) ?_
            refine zz_iastore (q := 177) C (by decide +kernel) rfl rfl (hok 14 90 60 rfl).2 rfl (by omega) (by decide) ?_
            refine zz_aload_n (q := 178) (f := 0) (i := 0) C (by decide +kernel) rfl rfl rfl ?_
            refine zz_aload_n (q := 179) (f := 0) (i := 0) C (by decide +kernel) rfl rfl rfl ?_
            refine zz_getI (q := 182) C gf_M_85 (by decide +kernel) rfl (by first | rfl | assumption) (mo_dh_fx _ _ _ _ _ _ _ _ _) ?_
            refine zz_iload (q := 184) (i := 4) C (by decide +kernel) rfl rfl ?_
            refine zz_icmp_ne (off := 7) (tgt := 191) (q := 187) C (by decide +kernel) (by decide) rfl (fun c184 => ?_) (fun c184 => ?_)
            · refine zz_aload_n (q := 192) (f := 0) (i := 0) C (by decide +kernel) rfl rfl rfl ?_
              refine zz_getI (q := 195) C gf_M_85 (by decide +kernel) rfl (by first | rfl | assumption) (mo_dh_fx _ _ _ _ _ _ _ _ _) ?_
              refine zz_putI (q := 198) C gf_M_85 (fun h => by cases h) (fun h => by cases h) (by decide +kernel) rfl (by first | rfl | assumption) ?_
              rw [mo_dh_put]
              refine zz_aload_n (q := 199) (f := 0) (i := 0) C (by decide +kernel) rfl rfl rfl ?_
              refine zz_getR (q := 202) C gf_M_48 (by decide +kernel) rfl (by first | rfl | assumption) (hok 17 90 60 rfl).1 ?_
              refine zz_iload (q := 204) (i := 4) C (by decide +kernel) rfl rfl ?_
              refine zz_iaload (q := 205) C (by decide +kernel) rfl rfl (hok 17 90 60 rfl).2 rfl (by omega) (by decide) (if_neg (fun z => n17 z.1)) ?_
              refine zz_iconst (q := 206) (n := -1) (x := (-1)) C (by decide +kernel) rfl (by decide +kernel) ?_
              refine zz_icmp_eq (off := 16) (tgt := 222) (q := 209) C (by decide +kernel) (by decide) rfl (fun c206 => ?_) (fun c206 => ?_)
              · refine zz_iinc (q := 225) (i := 4) (n := 1) C (by decide +kernel) rfl rfl (nI_1 _) (by decide) rfl ?_
                refine zz_goto (off := -73) (tgt := 152) C (by decide +kernel) (by decide) ?_
                -- AT 152
                first
                  | exact ih (i + 1) x9 v (by omega) (by omega) (mo_di_skip hd (zz_b_f c166))
                  | exact ih (i + 1) (fun b j => if b = mf h r 17 ∧ j = b9 then -1 else if b = mf h r 14 ∧ j = i then 0 else x9 b j) _ (by omega) (by omega) (mo_di_tw hap hd hgi hi hb60 hmb (Or.inl ⟨c184, rfl⟩))
                  | exact ih (i + 1) (fun b j => if b = mf h r 17 ∧ j = b9 then -1 else if b = mf h r 14 ∧ j = i then 0 else x9 b j) _ (by omega) (by omega) (mo_di_tw hap hd hgi hi hb60 hmb (Or.inr ⟨c184, rfl⟩))
                  | exact ih (i + 1) (fun b j => if b = mf h r 14 ∧ j = i then 0 else x9 b j) _ (by omega) (by omega) (mo_di_go hap (fun s z => z.1) htwK hd hgi hi c206 (Or.inl ⟨c184, rfl⟩))
                  | exact ih (i + 1) (fun b j => if b = mf h r 14 ∧ j = i then 0 else x9 b j) _ (by omega) (by omega) (mo_di_go hap (fun s z => z.1) htwK hd hgi hi c206 (Or.inr ⟨c184, rfl⟩))
              · obtain ⟨b9, hb60, hxb, hmb⟩ := mo_di_b hd (fun s z => z.1) htwK hgi hi c206
                refine zz_aload_n (q := 210) (f := 0) (i := 0) C (by decide +kernel) rfl rfl rfl ?_
                refine zz_getR (q := 213) C gf_M_48 (by decide +kernel) rfl (by first | rfl | assumption) (hok 17 90 60 rfl).1 ?_
                refine zz_aload_n (q := 214) (f := 0) (i := 0) C (by decide +kernel) rfl rfl rfl ?_
                refine zz_getR (q := 217) C gf_M_48 (by decide +kernel) rfl (by first | rfl | assumption) (hok 17 90 60 rfl).1 ?_
                refine zz_iload (q := 219) (i := 4) C (by decide +kernel) rfl rfl ?_
                refine zz_iaload (q := 220) C (by decide +kernel) rfl rfl (hok 17 90 60 rfl).2 rfl (by omega) (by decide) ((if_neg (fun z => n17 z.1)).trans hxb) ?_
                refine zz_iconst (q := 221) (n := -1) (x := (-1)) C (by decide +kernel) rfl (by decide +kernel) ?_
                refine zz_iastore (q := 222) C (by decide +kernel) rfl rfl (hok 17 90 60 rfl).2 rfl (by omega) (by decide) ?_
                refine zz_iinc (q := 225) (i := 4) (n := 1) C (by decide +kernel) rfl rfl (nI_1 _) (by decide) rfl ?_
                refine zz_goto (off := -73) (tgt := 152) C (by decide +kernel) (by decide) ?_
                -- AT 152
                first
                  | exact ih (i + 1) x9 v (by omega) (by omega) (mo_di_skip hd (zz_b_f c166))
                  | exact ih (i + 1) (fun b j => if b = mf h r 17 ∧ j = b9 then -1 else if b = mf h r 14 ∧ j = i then 0 else x9 b j) _ (by omega) (by omega) (mo_di_tw hap hd hgi hi hb60 hmb (Or.inl ⟨c184, rfl⟩))
                  | exact ih (i + 1) (fun b j => if b = mf h r 17 ∧ j = b9 then -1 else if b = mf h r 14 ∧ j = i then 0 else x9 b j) _ (by omega) (by omega) (mo_di_tw hap hd hgi hi hb60 hmb (Or.inr ⟨c184, rfl⟩))
                  | exact ih (i + 1) (fun b j => if b = mf h r 14 ∧ j = i then 0 else x9 b j) _ (by omega) (by omega) (mo_di_go hap (fun s z => z.1) htwK hd hgi hi c206 (Or.inl ⟨c184, rfl⟩))
                  | exact ih (i + 1) (fun b j => if b = mf h r 14 ∧ j = i then 0 else x9 b j) _ (by omega) (by omega) (mo_di_go hap (fun s z => z.1) htwK hd hgi hi c206 (Or.inr ⟨c184, rfl⟩))
            · refine zz_iconst (q := 188) (n := -1) (x := (-1)) C (by decide +kernel) rfl (by decide +kernel) ?_
              refine zz_goto (off := 7) (tgt := 195) C (by decide +kernel) (by decide) ?_
              refine zz_putI (q := 198) C gf_M_85 (fun h => by cases h) (fun h => by cases h) (by decide +kernel) rfl (by first | rfl | assumption) ?_
              rw [mo_dh_put]
              refine zz_aload_n (q := 199) (f := 0) (i := 0) C (by decide +kernel) rfl rfl rfl ?_
              refine zz_getR (q := 202) C gf_M_48 (by decide +kernel) rfl (by first | rfl | assumption) (hok 17 90 60 rfl).1 ?_
              refine zz_iload (q := 204) (i := 4) C (by decide +kernel) rfl rfl ?_
              refine zz_iaload (q := 205) C (by decide +kernel) rfl rfl (hok 17 90 60 rfl).2 rfl (by omega) (by decide) (if_neg (fun z => n17 z.1)) ?_
              refine zz_iconst (q := 206) (n := -1) (x := (-1)) C (by decide +kernel) rfl (by decide +kernel) ?_
              refine zz_icmp_eq (off := 16) (tgt := 222) (q := 209) C (by decide +kernel) (by decide) rfl (fun c206 => ?_) (fun c206 => ?_)
              · refine zz_iinc (q := 225) (i := 4) (n := 1) C (by decide +kernel) rfl rfl (nI_1 _) (by decide) rfl ?_
                refine zz_goto (off := -73) (tgt := 152) C (by decide +kernel) (by decide) ?_
                -- AT 152
                first
                  | exact ih (i + 1) x9 v (by omega) (by omega) (mo_di_skip hd (zz_b_f c166))
                  | exact ih (i + 1) (fun b j => if b = mf h r 17 ∧ j = b9 then -1 else if b = mf h r 14 ∧ j = i then 0 else x9 b j) _ (by omega) (by omega) (mo_di_tw hap hd hgi hi hb60 hmb (Or.inl ⟨c184, rfl⟩))
                  | exact ih (i + 1) (fun b j => if b = mf h r 17 ∧ j = b9 then -1 else if b = mf h r 14 ∧ j = i then 0 else x9 b j) _ (by omega) (by omega) (mo_di_tw hap hd hgi hi hb60 hmb (Or.inr ⟨c184, rfl⟩))
                  | exact ih (i + 1) (fun b j => if b = mf h r 14 ∧ j = i then 0 else x9 b j) _ (by omega) (by omega) (mo_di_go hap (fun s z => z.1) htwK hd hgi hi c206 (Or.inl ⟨c184, rfl⟩))
                  | exact ih (i + 1) (fun b j => if b = mf h r 14 ∧ j = i then 0 else x9 b j) _ (by omega) (by omega) (mo_di_go hap (fun s z => z.1) htwK hd hgi hi c206 (Or.inr ⟨c184, rfl⟩))
              · obtain ⟨b9, hb60, hxb, hmb⟩ := mo_di_b hd (fun s z => z.1) htwK hgi hi c206
                refine zz_aload_n (q := 210) (f := 0) (i := 0) C (by decide +kernel) rfl rfl rfl ?_
                refine zz_getR (q := 213) C gf_M_48 (by decide +kernel) rfl (by first | rfl | assumption) (hok 17 90 60 rfl).1 ?_
                refine zz_aload_n (q := 214) (f := 0) (i := 0) C (by decide +kernel) rfl rfl rfl ?_
                refine zz_getR (q := 217) C gf_M_48 (by decide +kernel) rfl (by first | rfl | assumption) (hok 17 90 60 rfl).1 ?_
                refine zz_iload (q := 219) (i := 4) C (by decide +kernel) rfl rfl ?_
                refine zz_iaload (q := 220) C (by decide +kernel) rfl rfl (hok 17 90 60 rfl).2 rfl (by omega) (by decide) ((if_neg (fun z => n17 z.1)).trans hxb) ?_
                refine zz_iconst (q := 221) (n := -1) (x := (-1)) C (by decide +kernel) rfl (by decide +kernel) ?_
                refine zz_iastore (q := 222) C (by decide +kernel) rfl rfl (hok 17 90 60 rfl).2 rfl (by omega) (by decide) ?_
                refine zz_iinc (q := 225) (i := 4) (n := 1) C (by decide +kernel) rfl rfl (nI_1 _) (by decide) rfl ?_
                refine zz_goto (off := -73) (tgt := 152) C (by decide +kernel) (by decide) ?_
                -- AT 152
                first
                  | exact ih (i + 1) x9 v (by omega) (by omega) (mo_di_skip hd (zz_b_f c166))
                  | exact ih (i + 1) (fun b j => if b = mf h r 17 ∧ j = b9 then -1 else if b = mf h r 14 ∧ j = i then 0 else x9 b j) _ (by omega) (by omega) (mo_di_tw hap hd hgi hi hb60 hmb (Or.inl ⟨c184, rfl⟩))
                  | exact ih (i + 1) (fun b j => if b = mf h r 17 ∧ j = b9 then -1 else if b = mf h r 14 ∧ j = i then 0 else x9 b j) _ (by omega) (by omega) (mo_di_tw hap hd hgi hi hb60 hmb (Or.inr ⟨c184, rfl⟩))
                  | exact ih (i + 1) (fun b j => if b = mf h r 14 ∧ j = i then 0 else x9 b j) _ (by omega) (by omega) (mo_di_go hap (fun s z => z.1) htwK hd hgi hi c206 (Or.inl ⟨c184, rfl⟩))
                  | exact ih (i + 1) (fun b j => if b = mf h r 14 ∧ j = i then 0 else x9 b j) _ (by omega) (by omega) (mo_di_go hap (fun s z => z.1) htwK hd hgi hi c206 (Or.inr ⟨c184, rfl⟩))
    have lp146 : ∀ y Ls x top fr, mo_Sd (mo_bg h r) r sw t2 y Ls x → g = some top → mIx (mo_so (mo_bg h r) y x) r top fr → ∀ hw wh, (∀ x9 v, mo_di (mo_so (mo_bg h r) y x) r (mG (mo_so (mo_bg h r) y x) r top) 60 x9 v → post (some (zz_i (nI (mCnt (mG (mo_so (mo_bg h r) y x) r top) 60)))) (zz_pI (mo_dh (mo_so (mo_bg h r) y x) r hw wh v x9) 7 13 r (nI Ls.length - nI (mCnt (mG (mo_so (mo_bg h r) y x) r top) 60)))) → zz_Z p l e { frames := 5, cells := 0, slots := 0, locals := 108 } s m args below meth c Q D DA (zz_A h s.heap.size) h 5 146 [some (zz_r 7 (some r)), some (zz_i (nI top)), some (zz_i (nI fr)), some (zz_i (nI (mCnt (mG (mo_so (mo_bg h r) y x) r top) 60))), some (zz_i (nI 60))] [zz_i wh, zz_r 7 (some r)] (zz_pI (mo_gs (mo_so (mo_bg h r) y x) r top 60) 7 28 r hw) 0 0 := by
      intro y Ls x top fr hS hg9 hix hw wh hpx
      have hS0 := hS
      have hW0 : mo_W (mo_bg h r) r sw t2 := hW
      have hok := hW.2.2.1
      have hap : mo_ap (mo_so (mo_bg h r) y x) r := hW.2.2.2.1
      have hl60 := mo_so_60 hS
      have hwl := mo_so_wl hW0 hS
      have hmn := mo_so_n hW0 hS
      have hlv := mo_sm_L (mo_so_sm hW0 hS)
      have hfr := hix.1
      have n17 : mf h r 17 ≠ mf h r 14 := hap 17 14 (by decide) (by decide) (by decide)
      have htwK : mo_tw (mo_so (mo_bg h r) y x) r := mo_sm_tw (mo_so_sm hW0 hS) (hpp top hg9).2.1
      have hsd := fun j => mo_gs_sd (k := (mo_so (mo_bg h r) y x)) (r := r) (top := top) (i := j) hap
      have hn60 := mCnt_le (mG (mo_so (mo_bg h r) y x) r top) 60
      have ht60 := (hpp top hg9).1.1
      refine zz_putI (q := 149) C gf_M_147 (fun h => by cases h) (fun h => by cases h) (by decide +kernel) rfl (by first | rfl | assumption) ?_
      refine zz_iconst (q := 150) (n := 0) (x := 0) C (by decide +kernel) rfl (by decide +kernel) ?_
      refine zz_istore (q := 152) (i := 4) C (by decide +kernel) rfl (by decide) rfl ?_
      -- AT 152
      have l9 := lp152 y Ls x top fr hS hg9 hix hw wh hpx 61 0 _ _ (by omega) (by omega) (mo_di_0 hap)
      rw [mo_dh_0] at l9
      exact l9
    have lp120 : ∀ y Ls x top fr, mo_Sd (mo_bg h r) r sw t2 y Ls x → g = some top → mIx (mo_so (mo_bg h r) y x) r top fr → (∀ x9 v, mo_di (mo_so (mo_bg h r) y x) r (mG (mo_so (mo_bg h r) y x) r top) 60 x9 v → post (some (zz_i (nI (mCnt (mG (mo_so (mo_bg h r) y x) r top) 60)))) (mo_df (mo_so (mo_bg h r) y x) r fr (mCnt (mG (mo_so (mo_bg h r) y x) r top) 60) Ls.length v x9)) → ∀ hw, hw = (if fr + (mCnt (mG (mo_so (mo_bg h r) y x) r top) 60) < Ls.length then 2 else 3) → zz_Z p l e { frames := 5, cells := 0, slots := 0, locals := 108 } s m args below meth c Q D DA (zz_A h s.heap.size) h 5 120 [some (zz_r 7 (some r)), some (zz_i (nI top)), some (zz_i (nI fr)), some (zz_i (nI (mCnt (mG (mo_so (mo_bg h r) y x) r top) 60))), some (zz_i (nI 60))] [zz_i hw, zz_r 7 (some r)] (mo_gs (mo_so (mo_bg h r) y x) r top 60) 0 0 := by
      intro y Ls x top fr hS hg9 hix hpx hw hhw
      have hS0 := hS
      have hW0 : mo_W (mo_bg h r) r sw t2 := hW
      have hok := hW.2.2.1
      have hap : mo_ap (mo_so (mo_bg h r) y x) r := hW.2.2.2.1
      have hl60 := mo_so_60 hS
      have hwl := mo_so_wl hW0 hS
      have hmn := mo_so_n hW0 hS
      have hlv := mo_sm_L (mo_so_sm hW0 hS)
      have hfr := hix.1
      have n17 : mf h r 17 ≠ mf h r 14 := hap 17 14 (by decide) (by decide) (by decide)
      have htwK : mo_tw (mo_so (mo_bg h r) y x) r := mo_sm_tw (mo_so_sm hW0 hS) (hpp top hg9).2.1
      have hsd := fun j => mo_gs_sd (k := (mo_so (mo_bg h r) y x)) (r := r) (top := top) (i := j) hap
      have hn60 := mCnt_le (mG (mo_so (mo_bg h r) y x) r top) 60
      have ht60 := (hpp top hg9).1.1
      refine zz_putI (q := 123) C gf_M_144 (fun h => by cases h) (fun h => by cases h) (by decide +kernel) rfl (by first | rfl | assumption) ?_
      refine zz_aload_n (q := 124) (f := 0) (i := 0) C (by decide +kernel) rfl rfl rfl ?_
      refine zz_iload_n (q := 125) (f := 2) (i := 2) C (by decide +kernel) rfl rfl rfl ?_
      refine zz_iload_n (q := 126) (f := 3) (i := 3) C (by decide +kernel) rfl rfl rfl ?_
      refine zz_iadd (q := 127) C (by decide +kernel) rfl (nI_add _ _) ?_
      refine zz_aload_n (q := 128) (f := 0) (i := 0) C (by decide +kernel) rfl rfl rfl ?_
      refine zz_getI (q := 131) C gf_M_153 (by decide +kernel) rfl (by first | rfl | assumption) hmn ?_
      refine zz_icmp_ge (off := 14) (tgt := 145) (q := 134) C (by decide +kernel) (by decide) rfl (fun c131 => ?_) (fun c131 => ?_)
      · have hge : ¬ fr + (mCnt (mG (mo_so (mo_bg h r) y x) r top) 60) < Ls.length := Nat.not_lt.mpr ((nI_leI (by omega) (by omega)).mp c131)
        refine zz_iconst (q := 146) (n := -1) (x := (-1)) C (by decide +kernel) rfl (by decide +kernel) ?_
        -- AT 146
        first
          | exact lp146 y Ls x top fr hS hg9 hix _ _ (fun x9 v z => mo_df_1 hhw hlt (hpx x9 v z))
          | exact lp146 y Ls x top fr hS hg9 hix _ _ (fun x9 v z => mo_df_0 hhw hge (hpx x9 v z))
      · have hlt : fr + (mCnt (mG (mo_so (mo_bg h r) y x) r top) 60) < Ls.length := Nat.lt_of_not_le (fun z => c131 (nI_le z (by omega)))
        refine zz_aload_n (q := 135) (f := 0) (i := 0) C (by decide +kernel) rfl rfl rfl ?_
        refine zz_getR (q := 138) C gf_M_54 (by decide +kernel) rfl (by first | rfl | assumption) (hok 19 90 60 rfl).1 ?_
        refine zz_iload_n (q := 139) (f := 2) (i := 2) C (by decide +kernel) rfl rfl rfl ?_
        refine zz_iload_n (q := 140) (f := 3) (i := 3) C (by decide +kernel) rfl rfl rfl ?_
        refine zz_iadd (q := 141) C (by decide +kernel) rfl (nI_add _ _) ?_
        refine zz_iaload (q := 142) C (by decide +kernel) rfl rfl (hok 19 90 60 rfl).2 rfl (by omega) (by decide) (mo_gx_a (hap 19 21 (by decide) (by decide) (by decide)) _) ?_
        refine zz_goto (off := 4) (tgt := 146) C (by decide +kernel) (by decide) ?_
        -- AT 146
        first
          | exact lp146 y Ls x top fr hS hg9 hix _ _ (fun x9 v z => mo_df_1 hhw hlt (hpx x9 v z))
          | exact lp146 y Ls x top fr hS hg9 hix _ _ (fun x9 v z => mo_df_0 hhw hge (hpx x9 v z))
    have lp79 : ∀ y Ls x top fr, mo_Sd (mo_bg h r) r sw t2 y Ls x → g = some top → mIx (mo_so (mo_bg h r) y x) r top fr → ∀ i (v : Int32), i < 60 → v = zz_b (mG (mo_so (mo_bg h r) y x) r top i) → (∀ n9, n9 = mCnt (mG (mo_so (mo_bg h r) y x) r top) (i + 1) → zz_Z p l e { frames := 5, cells := 0, slots := 0, locals := 108 } s m args below meth c Q D DA (zz_A h s.heap.size) h 5 35 [some (zz_r 7 (some r)), some (zz_i (nI top)), some (zz_i (nI fr)), some (zz_i (nI n9)), some (zz_i (nI (i + 1)))] [] (mo_gs (mo_so (mo_bg h r) y x) r top (i + 1)) 0 0) → zz_Z p l e { frames := 5, cells := 0, slots := 0, locals := 108 } s m args below meth c Q D DA (zz_A h s.heap.size) h 5 79 [some (zz_r 7 (some r)), some (zz_i (nI top)), some (zz_i (nI fr)), some (zz_i (nI (mCnt (mG (mo_so (mo_bg h r) y x) r top) i))), some (zz_i (nI i))] [zz_i v, zz_i (nI i), zz_r 91 (some (mf h r 21))] (mo_gs (mo_so (mo_bg h r) y x) r top i) 0 0 := by
      intro y Ls x top fr hS hg9 hix i v hi hv hZ
      have hS0 := hS
      have hW0 : mo_W (mo_bg h r) r sw t2 := hW
      have hok := hW.2.2.1
      have hap : mo_ap (mo_so (mo_bg h r) y x) r := hW.2.2.2.1
      have hl60 := mo_so_60 hS
      have hwl := mo_so_wl hW0 hS
      have hmn := mo_so_n hW0 hS
      have hlv := mo_sm_L (mo_so_sm hW0 hS)
      have hfr := hix.1
      have n17 : mf h r 17 ≠ mf h r 14 := hap 17 14 (by decide) (by decide) (by decide)
      have htwK : mo_tw (mo_so (mo_bg h r) y x) r := mo_sm_tw (mo_so_sm hW0 hS) (hpp top hg9).2.1
      have hsd := fun j => mo_gs_sd (k := (mo_so (mo_bg h r) y x)) (r := r) (top := top) (i := j) hap
      have hn60 := mCnt_le (mG (mo_so (mo_bg h r) y x) r top) 60
      have ht60 := (hpp top hg9).1.1
      have e9 : zz_sI (mo_gs (mo_so (mo_bg h r) y x) r top i) (mf h r 21) i v = mo_gs (mo_so (mo_bg h r) y x) r top (i + 1) := by rw [hv]; exact mo_gs_s _ r top i
      have hb : v = 0 ∨ v = 1 := by
        rw [hv, zz_b]; split
        · exact Or.inr rfl
        · exact Or.inl rfl
      refine zz_bastore (q := 80) C (by decide +kernel) rfl rfl (hok 21 91 60 rfl).2 rfl hi (by decide) hb ?_
      rw [e9]
      refine zz_aload_n (q := 81) (f := 0) (i := 0) C (by decide +kernel) rfl rfl rfl ?_
      refine zz_getR (q := 84) C gf_M_61 (by decide +kernel) rfl (by first | rfl | assumption) (hok 21 91 60 rfl).1 ?_
      refine zz_iload (q := 86) (i := 4) C (by decide +kernel) rfl rfl ?_
      refine zz_baload (q := 87) C (by decide +kernel) rfl rfl (hok 21 91 60 rfl).2 rfl (by omega) (by decide) (mo_gs_at _ r top i) ?_
      refine zz_if_eq (off := 9) (tgt := 96) (q := 90) C (by decide +kernel) (by decide) rfl (fun c87 => ?_) (fun c87 => ?_)
      · refine zz_iload_n (q := 97) (f := 3) (i := 3) C (by decide +kernel) rfl rfl rfl ?_
        refine zz_istore_n (q := 98) (f := 3) (i := 3) C (by decide +kernel) rfl rfl (by decide) rfl ?_
        refine zz_iinc (q := 101) (i := 4) (n := 1) C (by decide +kernel) rfl rfl (nI_1 _) (by decide) rfl ?_
        refine zz_goto (off := -66) (tgt := 35) C (by decide +kernel) (by decide) ?_
        -- AT 35
        first
          | exact hZ _ (mCnt_n _ _ (zz_b_f c87)).symm
          | exact hZ _ (mCnt_s _ _ (zz_b_t c87)).symm
      · refine zz_iload_n (q := 91) (f := 3) (i := 3) C (by decide +kernel) rfl rfl rfl ?_
        refine zz_iconst (q := 92) (n := 1) (x := 1) C (by decide +kernel) rfl (by decide +kernel) ?_
        refine zz_iadd (q := 93) C (by decide +kernel) rfl (nI_1 _) ?_
        refine zz_goto (off := 4) (tgt := 97) C (by decide +kernel) (by decide) ?_
        refine zz_istore_n (q := 98) (f := 3) (i := 3) C (by decide +kernel) rfl rfl (by decide) rfl ?_
        refine zz_iinc (q := 101) (i := 4) (n := 1) C (by decide +kernel) rfl rfl (nI_1 _) (by decide) rfl ?_
        refine zz_goto (off := -66) (tgt := 35) C (by decide +kernel) (by decide) ?_
        -- AT 35
        first
          | exact hZ _ (mCnt_n _ _ (zz_b_f c87)).symm
          | exact hZ _ (mCnt_s _ _ (zz_b_t c87)).symm
    have lp35 : ∀ y Ls x top fr, mo_Sd (mo_bg h r) r sw t2 y Ls x → g = some top → mIx (mo_so (mo_bg h r) y x) r top fr → (∀ x9 v, mo_di (mo_so (mo_bg h r) y x) r (mG (mo_so (mo_bg h r) y x) r top) 60 x9 v → post (some (zz_i (nI (mCnt (mG (mo_so (mo_bg h r) y x) r top) 60)))) (mo_df (mo_so (mo_bg h r) y x) r fr (mCnt (mG (mo_so (mo_bg h r) y x) r top) 60) Ls.length v x9)) → ∀ n i, 61 ≤ n + i → i ≤ 60 → zz_Z p l e { frames := 5, cells := 0, slots := 0, locals := 108 } s m args below meth c Q D DA (zz_A h s.heap.size) h 5 35 [some (zz_r 7 (some r)), some (zz_i (nI top)), some (zz_i (nI fr)), some (zz_i (nI (mCnt (mG (mo_so (mo_bg h r) y x) r top) i))), some (zz_i (nI i))] [] (mo_gs (mo_so (mo_bg h r) y x) r top i) 0 0 := by
      intro y Ls x top fr hS hg9 hix hpx n
      have hS0 := hS
      have hW0 : mo_W (mo_bg h r) r sw t2 := hW
      have hok := hW.2.2.1
      have hap : mo_ap (mo_so (mo_bg h r) y x) r := hW.2.2.2.1
      have hl60 := mo_so_60 hS
      have hwl := mo_so_wl hW0 hS
      have hmn := mo_so_n hW0 hS
      have hlv := mo_sm_L (mo_so_sm hW0 hS)
      have hfr := hix.1
      have n17 : mf h r 17 ≠ mf h r 14 := hap 17 14 (by decide) (by decide) (by decide)
      have htwK : mo_tw (mo_so (mo_bg h r) y x) r := mo_sm_tw (mo_so_sm hW0 hS) (hpp top hg9).2.1
      have hsd := fun j => mo_gs_sd (k := (mo_so (mo_bg h r) y x)) (r := r) (top := top) (i := j) hap
      have hn60 := mCnt_le (mG (mo_so (mo_bg h r) y x) r top) 60
      have ht60 := (hpp top hg9).1.1
      induction n with
      | zero =>
        intro i hn hi
        exact absurd hn (by omega)
      | succ n ih =>
        intro i hn hile
        refine zz_iload (q := 37) (i := 4) C (by decide +kernel) rfl rfl ?_
        refine zz_bipush (q := 39) (n := 60) (x := 60) C (by decide +kernel) rfl (by decide +kernel) ?_
        refine zz_icmp_ge (off := 65) (tgt := 104) (q := 42) C (by decide +kernel) (by decide) rfl (fun c39 => ?_) (fun c39 => ?_)
        · obtain rfl : i = 60 := by
            have := (nI_leI (a := 60) (b := i) (by decide) (by omega)).mp c39
            omega
          refine zz_aload_n (q := 105) (f := 0) (i := 0) C (by decide +kernel) rfl rfl rfl ?_
          refine zz_iload_n (q := 106) (f := 2) (i := 2) C (by decide +kernel) rfl rfl rfl ?_
          refine zz_iload_n (q := 107) (f := 3) (i := 3) C (by decide +kernel) rfl rfl rfl ?_
          refine zz_iadd (q := 108) C (by decide +kernel) rfl (nI_add _ _) ?_
          refine zz_aload_n (q := 109) (f := 0) (i := 0) C (by decide +kernel) rfl rfl rfl ?_
          refine zz_getI (q := 112) C gf_M_153 (by decide +kernel) rfl (by first | rfl | assumption) hmn ?_
          refine zz_icmp_ge (off := 7) (tgt := 119) (q := 115) C (by decide +kernel) (by decide) rfl (fun c112 => ?_) (fun c112 => ?_)
          · refine zz_iconst (q := 120) (n := 3) (x := 3) C (by decide +kernel) rfl (by decide +kernel) ?_
            -- AT 120
            first
              | exact lp120 y Ls x top fr hS hg9 hix hpx _ (if_neg (Nat.not_lt.mpr ((nI_leI (by omega) (by omega)).mp c112))).symm
              | exact lp120 y Ls x top fr hS hg9 hix hpx _ (if_pos (Nat.lt_of_not_le (fun z => c112 (nI_le z (by omega))))).symm
          · refine zz_iconst (q := 116) (n := 2) (x := 2) C (by decide +kernel) rfl (by decide +kernel) ?_
            refine zz_goto (off := 4) (tgt := 120) C (by decide +kernel) (by decide) ?_
            -- AT 120
            first
              | exact lp120 y Ls x top fr hS hg9 hix hpx _ (if_neg (Nat.not_lt.mpr ((nI_leI (by omega) (by omega)).mp c112))).symm
              | exact lp120 y Ls x top fr hS hg9 hix hpx _ (if_pos (Nat.lt_of_not_le (fun z => c112 (nI_le z (by omega))))).symm
        · have hi : i < 60 := Nat.lt_of_not_le (fun z => c39 (nI_le (a := 60) z (by omega)))
          refine zz_aload_n (q := 43) (f := 0) (i := 0) C (by decide +kernel) rfl rfl rfl ?_
          refine zz_getR (q := 46) C gf_M_61 (by decide +kernel) rfl (by first | rfl | assumption) (hok 21 91 60 rfl).1 ?_
          refine zz_iload (q := 48) (i := 4) C (by decide +kernel) rfl rfl ?_
          refine zz_aload_n (q := 49) (f := 0) (i := 0) C (by decide +kernel) rfl rfl rfl ?_
          refine zz_getR (q := 52) C gf_M_39 (by decide +kernel) rfl (by first | rfl | assumption) (hok 14 90 60 rfl).1 ?_
          refine zz_iload (q := 54) (i := 4) C (by decide +kernel) rfl rfl ?_
          refine zz_iaload (q := 55) C (by decide +kernel) rfl rfl (hok 14 90 60 rfl).2 rfl (by omega) (by decide) (mo_gx_a (hap 14 21 (by decide) (by decide) (by decide)) i) ?_
          refine zz_if_le (off := 23) (tgt := 78) (q := 58) C (by decide +kernel) (by decide) rfl (fun c55 => ?_) (fun c55 => ?_)
          · refine zz_iconst (q := 79) (n := 0) (x := 0) C (by decide +kernel) rfl (by decide +kernel) ?_
            -- AT 79
            have hZ := fun n9 (z9 : n9 = mCnt (mG (mo_so (mo_bg h r) y x) r top) (i + 1)) => (by rw [z9]; exact ih (i + 1) (by omega) (by omega) : zz_Z p l e { frames := 5, cells := 0, slots := 0, locals := 108 } s m args below meth c Q D DA (zz_A h s.heap.size) h 5 35 [some (zz_r 7 (some r)), some (zz_i (nI top)), some (zz_i (nI fr)), some (zz_i (nI n9)), some (zz_i (nI (i + 1)))] [] (mo_gs (mo_so (mo_bg h r) y x) r top (i + 1)) 0 0)
            first
              | exact lp79 y Ls x top fr hS hg9 hix i 0 hi (mG_0 (fun z => absurd z.1.2 (Int32.not_lt.mpr c55))) hZ
              | exact lp79 y Ls x top fr hS hg9 hix i 1 hi (mG_1 ⟨⟨hi, Int32.not_le.mp c55⟩, Or.inl (nI_eqI9 (by omega) (by omega) c61)⟩) hZ
              | exact lp79 y Ls x top fr hS hg9 hix i 0 hi (mG_0 (fun z => z.2.elim (fun w => c61 (congrArg nI w)) (fun w => zz_b_f c71 w))) hZ
              | exact lp79 y Ls x top fr hS hg9 hix i 1 hi (mG_1 ⟨⟨hi, Int32.not_le.mp c55⟩, Or.inr (zz_b_t c71)⟩) hZ
          · refine zz_iload (q := 60) (i := 4) C (by decide +kernel) rfl rfl ?_
            refine zz_iload_n (q := 61) (f := 1) (i := 1) C (by decide +kernel) rfl rfl rfl ?_
            refine zz_icmp_eq (off := 13) (tgt := 74) (q := 64) C (by decide +kernel) (by decide) rfl (fun c61 => ?_) (fun c61 => ?_)
            · refine zz_iconst (q := 75) (n := 1) (x := 1) C (by decide +kernel) rfl (by decide +kernel) ?_
              refine zz_goto (off := 4) (tgt := 79) C (by decide +kernel) (by decide) ?_
              -- AT 79
              have hZ := fun n9 (z9 : n9 = mCnt (mG (mo_so (mo_bg h r) y x) r top) (i + 1)) => (by rw [z9]; exact ih (i + 1) (by omega) (by omega) : zz_Z p l e { frames := 5, cells := 0, slots := 0, locals := 108 } s m args below meth c Q D DA (zz_A h s.heap.size) h 5 35 [some (zz_r 7 (some r)), some (zz_i (nI top)), some (zz_i (nI fr)), some (zz_i (nI n9)), some (zz_i (nI (i + 1)))] [] (mo_gs (mo_so (mo_bg h r) y x) r top (i + 1)) 0 0)
              first
                | exact lp79 y Ls x top fr hS hg9 hix i 0 hi (mG_0 (fun z => absurd z.1.2 (Int32.not_lt.mpr c55))) hZ
                | exact lp79 y Ls x top fr hS hg9 hix i 1 hi (mG_1 ⟨⟨hi, Int32.not_le.mp c55⟩, Or.inl (nI_eqI9 (by omega) (by omega) c61)⟩) hZ
                | exact lp79 y Ls x top fr hS hg9 hix i 0 hi (mG_0 (fun z => z.2.elim (fun w => c61 (congrArg nI w)) (fun w => zz_b_f c71 w))) hZ
                | exact lp79 y Ls x top fr hS hg9 hix i 1 hi (mG_1 ⟨⟨hi, Int32.not_le.mp c55⟩, Or.inr (zz_b_t c71)⟩) hZ
            · refine zz_aload_n (q := 65) (f := 0) (i := 0) C (by decide +kernel) rfl rfl rfl ?_
              refine zz_iload (q := 67) (i := 4) C (by decide +kernel) rfl rfl ?_
              refine zz_iload_n (q := 68) (f := 1) (i := 1) C (by decide +kernel) rfl rfl rfl ?_
              refine zz_callV (q := 71) C (m_M_isBelow l) cv_M_156 (by decide +kernel) rfl rfl rfl (by first | rfl | assumption) (by decide) (by decide) (Nat.le_of_ble_eq_true rfl) ⟨_, i, top, rfl, ht60, hok, mo_sd_wl (hsd i) hwl, (by rw [mo_sd_L (hsd i)]; exact ⟨hi, Int32.not_le.mp c55⟩), ?_⟩
              rw [show mBo (mo_gs (mo_so (mo_bg h r) y x) r top i) r top 3 (mP (mo_gs (mo_so (mo_bg h r) y x) r top i) r i) = mBo (mo_so (mo_bg h r) y x) r top 3 (mP (mo_so (mo_bg h r) y x) r i) by rw [mo_sd_Bo (hsd i), mo_sd_P (hsd i)]]
              refine zz_if_eq (off := 7) (tgt := 78) (q := 74) C (by decide +kernel) (by decide) rfl (fun c71 => ?_) (fun c71 => ?_)
              · refine zz_iconst (q := 79) (n := 0) (x := 0) C (by decide +kernel) rfl (by decide +kernel) ?_
                -- AT 79
                have hZ := fun n9 (z9 : n9 = mCnt (mG (mo_so (mo_bg h r) y x) r top) (i + 1)) => (by rw [z9]; exact ih (i + 1) (by omega) (by omega) : zz_Z p l e { frames := 5, cells := 0, slots := 0, locals := 108 } s m args below meth c Q D DA (zz_A h s.heap.size) h 5 35 [some (zz_r 7 (some r)), some (zz_i (nI top)), some (zz_i (nI fr)), some (zz_i (nI n9)), some (zz_i (nI (i + 1)))] [] (mo_gs (mo_so (mo_bg h r) y x) r top (i + 1)) 0 0)
                first
                  | exact lp79 y Ls x top fr hS hg9 hix i 0 hi (mG_0 (fun z => absurd z.1.2 (Int32.not_lt.mpr c55))) hZ
                  | exact lp79 y Ls x top fr hS hg9 hix i 1 hi (mG_1 ⟨⟨hi, Int32.not_le.mp c55⟩, Or.inl (nI_eqI9 (by omega) (by omega) c61)⟩) hZ
                  | exact lp79 y Ls x top fr hS hg9 hix i 0 hi (mG_0 (fun z => z.2.elim (fun w => c61 (congrArg nI w)) (fun w => zz_b_f c71 w))) hZ
                  | exact lp79 y Ls x top fr hS hg9 hix i 1 hi (mG_1 ⟨⟨hi, Int32.not_le.mp c55⟩, Or.inr (zz_b_t c71)⟩) hZ
              · refine zz_iconst (q := 75) (n := 1) (x := 1) C (by decide +kernel) rfl (by decide +kernel) ?_
                refine zz_goto (off := 4) (tgt := 79) C (by decide +kernel) (by decide) ?_
                -- AT 79
                have hZ := fun n9 (z9 : n9 = mCnt (mG (mo_so (mo_bg h r) y x) r top) (i + 1)) => (by rw [z9]; exact ih (i + 1) (by omega) (by omega) : zz_Z p l e { frames := 5, cells := 0, slots := 0, locals := 108 } s m args below meth c Q D DA (zz_A h s.heap.size) h 5 35 [some (zz_r 7 (some r)), some (zz_i (nI top)), some (zz_i (nI fr)), some (zz_i (nI n9)), some (zz_i (nI (i + 1)))] [] (mo_gs (mo_so (mo_bg h r) y x) r top (i + 1)) 0 0)
                first
                  | exact lp79 y Ls x top fr hS hg9 hix i 0 hi (mG_0 (fun z => absurd z.1.2 (Int32.not_lt.mpr c55))) hZ
                  | exact lp79 y Ls x top fr hS hg9 hix i 1 hi (mG_1 ⟨⟨hi, Int32.not_le.mp c55⟩, Or.inl (nI_eqI9 (by omega) (by omega) c61)⟩) hZ
                  | exact lp79 y Ls x top fr hS hg9 hix i 0 hi (mG_0 (fun z => z.2.elim (fun w => c61 (congrArg nI w)) (fun w => zz_b_f c71 w))) hZ
                  | exact lp79 y Ls x top fr hS hg9 hix i 1 hi (mG_1 ⟨⟨hi, Int32.not_le.mp c55⟩, Or.inr (zz_b_t c71)⟩) hZ
    refine zz_aload_n (q := 1) (f := 0) (i := 0) C (by decide +kernel) rfl rfl rfl ?_
    refine zz_getI (q := 4) C gf_M_82 (by decide +kernel) rfl (by first | rfl | assumption) hg ?_
    refine zz_istore_n (q := 5) (f := 1) (i := 1) C (by decide +kernel) rfl rfl (by decide) rfl ?_
    refine zz_aload_n (q := 6) (f := 0) (i := 0) C (by decide +kernel) rfl rfl rfl ?_
    refine zz_callV (q := 9) C (m_M_begin l) cv_M_91 (by decide +kernel) rfl rfl rfl (by first | rfl | assumption) (by decide) (by decide) (Nat.le_of_ble_eq_true rfl) ⟨_, rfl, ?_⟩
    refine zz_iload_n (q := 10) (f := 1) (i := 1) C (by decide +kernel) rfl rfl rfl ?_
    refine zz_iconst (q := 11) (n := -1) (x := (-1)) C (by decide +kernel) rfl (by decide +kernel) ?_
    refine zz_icmp_ne (off := 9) (tgt := 20) (q := 14) C (by decide +kernel) (by decide) rfl (fun c11 => ?_) (fun c11 => ?_)
    · obtain ⟨top, rfl⟩ := mO_some c11
      refine zz_aload_n (q := 21) (f := 0) (i := 0) C (by decide +kernel) rfl rfl rfl ?_
      refine zz_callV (q := 24) C (m_M_sort l) cv_M_162 (by decide +kernel) rfl rfl rfl (by first | rfl | assumption) (by decide) (by decide) (Nat.le_of_ble_eq_true rfl) ⟨_, sw, t2, rfl, hW.1, hW.2.1, hW.2.2.1, hW.2.2.2.1, hW.2.2.2.2.1, hW.2.2.2.2.2.1, hW.2.2.2.2.2.2.1, hW.2.2.2.2.2.2.2.1, fun y Ls x k1 k2 k3 k4 => ?_⟩
      have hS : mo_Sd (mo_bg h r) r sw t2 y Ls x := ⟨k1, k2, k3, k4⟩
      have hW0 : mo_W (mo_bg h r) r sw t2 := hW
      obtain ⟨fr, hix, hpx⟩ := (hpp top rfl).2.2 y Ls x hS
      have hok := hW.2.2.1
      refine zz_aload_n (q := 25) (f := 0) (i := 0) C (by decide +kernel) rfl rfl rfl ?_
      refine zz_iload_n (q := 26) (f := 1) (i := 1) C (by decide +kernel) rfl rfl rfl ?_
      refine zz_callV (q := 29) C (m_M_indexOf l) cv_M_150 (by decide +kernel) rfl rfl rfl (by first | rfl | assumption) (by decide) (by decide) (Nat.le_of_ble_eq_true rfl) ⟨_, _, fr, rfl, hok, hix, ?_⟩
      refine zz_istore_n (q := 30) (f := 2) (i := 2) C (by decide +kernel) rfl rfl (by decide) rfl ?_
      refine zz_iconst (q := 31) (n := 0) (x := 0) C (by decide +kernel) rfl (by decide +kernel) ?_
      refine zz_istore_n (q := 32) (f := 3) (i := 3) C (by decide +kernel) rfl rfl (by decide) rfl ?_
      refine zz_iconst (q := 33) (n := 0) (x := 0) C (by decide +kernel) rfl (by decide +kernel) ?_
      refine zz_istore (q := 35) (i := 4) C (by decide +kernel) rfl (by decide) rfl ?_
      -- AT 35
      have l9 := lp35 y Ls x top fr hS rfl hix hpx 61 0 (by omega) (by omega)
      rw [mo_gs_0] at l9
      exact l9
    · refine zz_aload_n (q := 15) (f := 0) (i := 0) C (by decide +kernel) rfl rfl rfl ?_
      refine zz_iconst (q := 16) (n := 1) (x := 1) C (by decide +kernel) rfl (by decide +kernel) ?_
      refine zz_callV (q := 19) C (m_M_refuse l) cv_M_173 (by decide +kernel) rfl rfl rfl (by first | rfl | assumption) (by decide) (by decide) (Nat.le_of_ble_eq_true rfl) ⟨_, _, rfl, ?_⟩
      refine zz_iret C hr hlk (by decide +kernel) hQ (by decide) (by decide) ?_
      exact hp0 (by
        cases g with
        | none => rfl
        | some s => exact absurd c11 (nI_neg (by have := (hpp s rfl).1.1; omega)))

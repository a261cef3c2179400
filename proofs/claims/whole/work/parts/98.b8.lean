/-! moves of the reference, and what they leave -/
theorem zz_pR_a (h : zz_H) (ci k a : Nat) (v : Option Nat) : zz_fR (zz_pR h ci k a v) ci k a = v := if_pos ⟨rfl, rfl, rfl⟩
theorem zz_pR_n (h : zz_H) (ci k : Nat) {a b : Nat} (v : Option Nat) (hb : b ≠ a) : zz_fR (zz_pR h ci k a v) ci k b = zz_fR h ci k b := if_neg (fun z => hb z.2.2)
theorem zz_pI_a (h : zz_H) (ci k a : Nat) (v : Int32) : zz_fI (zz_pI h ci k a v) ci k a = v := if_pos ⟨rfl, rfl, rfl⟩
theorem zz_pI_n (h : zz_H) (ci k : Nat) {a b : Nat} (v : Int32) (hb : b ≠ a) : zz_fI (zz_pI h ci k a v) ci k b = zz_fI h ci k b := if_neg (fun z => hb z.2.2)
theorem zz_sI_n (h : zz_H) {a b : Nat} (i j : Nat) (v : Int32) (hb : b ≠ a) : zz_aI (zz_sI h a i v) b j = zz_aI h b j := if_neg (fun z => hb z.1)
theorem zz_sI_j (h : zz_H) (a b : Nat) {i j : Nat} (v : Int32) (hj : j ≠ i) : zz_aI (zz_sI h a i v) b j = zz_aI h b j := if_neg (fun z => hj z.2)
theorem aU_eq (A : aA) (j k : Nat) (v : Int32) : aU A j k v j k = v := if_pos ⟨rfl, rfl⟩
theorem aU_ne {A : aA} {j k l : Nat} {v : Int32} (hl : l ≠ k) : aU A j k v j l = A j l := if_neg (fun z => hl z.2)
def gF (g g' : zz_H) (r : Nat) : Prop := (g'.1 = g.1 ∧ g'.2.2.1 = g.2.2.1 ∧ g'.2.2.2.2.1 = g.2.2.2.2.1) ∧ (∀ c, c ≠ 7 → zz_fI g' c = zz_fI g c) ∧ (∀ b, (∀ j, mo_sz j ≠ none → mf g r j ≠ b) → zz_aI g' b = zz_aI g b) ∧ ∀ b, b ≠ mf g r 20 → zz_aL g' b = zz_aL g b
/-- g' holds A and f, and is g elsewhere -/
def gR (g g' : zz_H) (r : Nat) (A : aA) (f : aF) : Prop := (mo_ok g r ∧ mo_ap g r) ∧ mA g' r = A ∧ mQ g' r = f ∧ gF g g' r
section GR
variable {g g' : zz_H} {r : Nat} {A : aA} {f : aF}
theorem gF_mf (h : gF g g' r) (j : Nat) : mf g' r j = mf g r j := by
  unfold mf zz_fR
  rw [h.1.2.1]
theorem gF_ok (h : gF g g' r) (hok : mo_ok g r) : mo_ok g' r := fun j ty n hj => by
  have := hok j ty n hj
  rw [gF_mf h j]
  unfold zz_fR zz_tg at this ⊢
  rw [h.1.2.1, h.1.1]; exact this
theorem gF_ap (h : gF g g' r) (hap : mo_ap g r) : mo_ap g' r := fun i j h1 h2 h3 => by
  rw [gF_mf h i, gF_mf h j]; exact hap i j h1 h2 h3
theorem gR_rf (hok : mo_ok g r) (hap : mo_ap g r) : gR g g r (mA g r) (mQ g r) := ⟨⟨hok, hap⟩, rfl, rfl, ⟨rfl, rfl, rfl⟩, fun _ _ => rfl, fun _ _ => rfl, fun _ _ => rfl⟩
theorem gR_p0 (h : gR g g' r A f) (v : Int32) : gR g (zz_pI g' 7 0 r v) r A f := ⟨h.1, h.2.1, (mQ_0 _ _ _).trans h.2.2.1, h.2.2.2.1, fun c hc => (zz_pI_c _ _ _ _ c hc).trans (h.2.2.2.2.1 c hc), h.2.2.2.2.2⟩
theorem gR_p (h : gR g g' r A f) {j : Nat} (hj : j ≠ 0) (v : Int32) : gR g (zz_pI g' 7 j r v) r A (qU f j v) := ⟨h.1, h.2.1, (mQ_p _ _ hj _).trans (by rw [h.2.2.1]), h.2.2.2.1, fun c hc => (zz_pI_c _ _ _ _ c hc).trans (h.2.2.2.2.1 c hc), h.2.2.2.2.2⟩
theorem gR_bg (h : gR g g' r A f) : gR g (mo_bg g' r) r A (qU f 30 (-1)) := gR_p (gR_p0 h 0) (by decide) (-1)
theorem gR_s (h : gR g g' r A f) {j : Nat} (hj : mS j = true) (k : Nat) (v : Int32) {b : Nat} (hb : b = mf g' r j) : gR g (zz_sI g' b k v) r (aU A j k v) f := by
  subst hb
  refine ⟨h.1, (mA_s (gF_ap h.2.2.2 h.1.2) hj k v).trans (by rw [h.2.1]), h.2.2.1, h.2.2.2.1, h.2.2.2.2.1, fun b hn => ?_, h.2.2.2.2.2.2⟩
  rw [← h.2.2.2.2.2.1 b hn]
  funext i
  exact if_neg (fun z => hn j (mS_sz hj).1 (by rw [z.1, gF_mf h.2.2.2]))
theorem gR_so (h : gR g g' r A f) {y : Nat → Nat → Int64} {xx : Nat → Nat → Int32} (hx : mFr g' r xx) (hy : ∀ b j, b ≠ mf g' r 20 → y b j = zz_aL g' b j) : gR g (mo_so g' y xx) r A f := by
  refine ⟨h.1, (mA_so (gF_ap h.2.2.2 h.1.2) hx).trans h.2.1, h.2.2.1, h.2.2.2.1, h.2.2.2.2.1, fun b hn => ?_, fun b hb => ?_⟩
  · rw [← h.2.2.2.2.2.1 b hn]
    funext i
    exact hx b i (fun z => hn 19 (by decide) (by rw [z, gF_mf h.2.2.2]))
  · rw [← h.2.2.2.2.2.2 b hb]
    funext i
    exact hy b i (by rw [gF_mf h.2.2.2]; exact hb)
theorem mo_not2 {h : zz_H} {b m : Nat} (hok : mo_ok h r) (hb : zz_tg h b = some (90, m)) (hm : m = 3 ∨ m = 4) (h27 : b ≠ mf h r 27) : ∀ j, mo_sz j ≠ none → mf h r j ≠ b := by
  intro j hj e
  have key : ∀ ty k, mo_sz j = some (ty, k) → ty = 90 ∧ k = m := fun ty k hs => by
    have := (hok j ty k hs).2
    rw [e, hb] at this
    cases this; exact ⟨rfl, rfl⟩
  unfold mo_sz at hj
  split at hj <;> first | exact h27 e.symm | (have := key _ _ rfl; omega) | exact absurd rfl hj
theorem Rel_of {x n u sw t2 : Nat} {σ κ : Nat → Nat} {LB LN : List Nat} (h : gR g g' r A f) (hu : zz_tg g u = some (92, 1)) (hM : aM A f n sw t2) (hC : CA g x (mf g r 27) A f σ κ LB LN sw t2) : Rel n g' x r u := by
  obtain ⟨⟨hok, hap⟩, eA, eQ, hF⟩ := h
  refine Rel_mk (h1 := g) (gF_ok hF hok) (gF_ap hF hap) ?_ eA eQ hM (by rw [gF_mf hF]; exact hC) hF.1.1 hF.1.2.1 hF.1.2.2 hF.2.1 (fun b m hb hm h27 => hF.2.2.1 b (mo_not2 hok hb hm (by rw [gF_mf hF] at h27; exact h27)))
  unfold zz_tg at hu ⊢
  rw [hF.1.1]; exact hu
theorem gR_u {u : Nat} (h : gR g g' r A f) (hu : zz_tg g u = some (92, 1)) : zz_aL g' u = zz_aL g u := h.2.2.2.2.2.2 u (fun z => by
  have := (h.1.1 20 92 60 rfl).2
  rw [← z, hu] at this; cases this)
end GR
/-- the class's moves leave what the reference holds -/
def cR (h g : zz_H) (r : Nat) : Prop := mo_ok g r ∧ mo_ap g r ∧ mA g r = mA h r ∧ mQ g r = mQ h r ∧ mf g r 27 = mf h r 27
theorem cR_sL {h g : zz_H} {r : Nat} (hc : cR h g r) (u : Nat) (i : Nat) (v : Int64) : cR h (zz_sL g u i v) r := hc
theorem cR_rf {h : zz_H} {r : Nat} (hok : mo_ok h r) (hap : mo_ap h r) : cR h h r := ⟨hok, hap, rfl, rfl, rfl⟩
theorem cR_s {h g : zz_H} {r b : Nat} (hc : cR h g r) (hn : ∀ j, mS j = true → mf g r j ≠ b) (k : Nat) (v : Int32) : cR h (zz_sI g b k v) r := ⟨hc.1, hc.2.1, (mA_not hn k v).trans hc.2.2.1, hc.2.2.2.1, hc.2.2.2.2⟩
theorem gR_of {h g : zz_H} {r : Nat} (hc : cR h g r) : gR g g r (mA h r) (mQ h r) := by
  have := gR_rf hc.1 hc.2.1
  rw [hc.2.2.1, hc.2.2.2.1] at this
  exact this
/-- long arrays do not matter to the class -/
theorem CA_sL {h : zz_H} {x m27 : Nat} {A : aA} {f : aF} {σ κ : Nat → Nat} {LB LN : List Nat} {sw t2 : Nat} (hC : CA h x m27 A f σ κ LB LN sw t2) (u i : Nat) (v : Int64) : CA (zz_sL h u i v) x m27 A f σ κ LB LN sw t2 := hC
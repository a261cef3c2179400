/-! gets -/
def aGt (A : aA) (bl : Option Nat) (s : Nat) : Prop := (∀ b, bl = some b → aIn A b s ∧ s ≠ b) ∧ aMeet A s
theorem or_first_same {m fs : Nat} {P P' : Nat → Prop} {N N' : Nat → Nat} {σ : Nat → Nat} {a b : Option Nat} (hP : ∀ i, i < m → (P i ↔ P' i)) (hN : ∀ i, i < m → N i = σ (N' i)) (h1 : or_first m fs P N a) (h2 : or_first m fs P' N' b) : a = b.map σ := by
  rcases h1 with ⟨e1, g1⟩ | ⟨i, i1, i2, i3, i4, e1⟩
  · rcases h2 with ⟨e2, g2⟩ | ⟨j, j1, j2, j3, j4, e2⟩
    · rw [e1, e2]; rfl
    · exact absurd ((hP j j2).mpr j3) (g1 j j1 j2)
  · rcases h2 with ⟨e2, g2⟩ | ⟨j, j1, j2, j3, j4, e2⟩
    · exact absurd ((hP i i2).mp i3) (g2 i i1 i2)
    · have : i = j := by
        rcases Nat.lt_trichotomy i j with h | h | h
        · exact absurd ((hP i i2).mp i3) (j4 i i1 h)
        · exact h
        · exact absurd ((hP j j2).mpr j3) (i4 j j1 h)
      subst this
      rw [e1, e2, hN i i2]; rfl
section GT
variable {h g : zz_H} {x m27 n r u : Nat} {A : aA} {f : aF} {σ κ : Nat → Nat} {LB LN : List Nat} {sw t2 : Nat}
theorem mGt_a (hw : aWl (mA g r)) {bl : Option Nat} (hbl : ∀ b, bl = some b → aLive (mA g r) b) {s : Nat} (ls : aLive (mA g r) s) : mGt g r bl s ↔ aGt (mA g r) bl s := by
  unfold mGt aGt
  rw [mo_meet_a hw ls]
  constructor
  · rintro ⟨z1, z2⟩; exact ⟨fun b hb => (mBo_a hw (hbl b hb) ls).mp (z1 b hb), z2⟩
  · rintro ⟨z1, z2⟩; exact ⟨fun b hb => (mBo_a hw (hbl b hb) ls).mpr (z1 b hb), z2⟩
theorem or_pm_a (hM : aM A f n sw t2) (hC : CA h x m27 A f σ κ LB LN sw t2) {bl : Option Nat} (hbl : ∀ b, bl = some b → aLive A b) {i e : Nat} (hi : LN[i]? = some e) : or_pm h (t_od h x) (t_pa h x) (bl.map σ) i ↔ aGt A bl e := by
  have le := (hC.2.2.2.2.2.2.1.2.2.2.2.2.1 e).mp (List.mem_of_getElem? hi)
  unfold or_pm aGt
  rw [c_N hC.2.2.2.2.2.2.1 hi, c_meet hM hC le]
  constructor
  · rintro ⟨z1, z2⟩
    refine ⟨fun b hb => ?_, z2⟩
    obtain ⟨q1, q2⟩ := z1 (σ b) (by rw [hb]; rfl)
    exact ⟨(c_in hC.2.2.1 hC.2.2.2.1 hM.1 hM.2.2.1 hM.2.2.2.2.1 (hbl b hb) le).mp q2, fun z => q1 (by rw [z])⟩
  · rintro ⟨z1, z2⟩
    refine ⟨fun t ht => ?_, z2⟩
    cases bl with
    | none => cases ht
    | some b =>
      cases ht
      obtain ⟨q1, q2⟩ := z1 b rfl
      exact ⟨fun z => q2 (c_σinj hC.2.2.2.1 hM.2.2.2.2.1 le (hbl b rfl) z), (c_in hC.2.2.1 hC.2.2.2.1 hM.1 hM.2.2.1 hM.2.2.2.2.1 (hbl b rfl) le).mpr q1⟩
/-- what is found is the same on both sides -/
theorem c_found (hM : aM A f n sw t2) (hC : CA h x m27 A f σ κ LB LN sw t2) {bl : Option Nat} (hbl : ∀ b, bl = some b → aLive A b) {fs : Nat} {rC : Option Nat} (hor : or_first (or_s h (t_od h x)) fs (or_pm h (t_od h x) (t_pa h x) (bl.map σ)) (or_N h (t_od h x)) rC) (eA : mA g r = A) {res : Option Nat} (hres : or_first LN.length fs (fun k => mGt g r bl (LN.getD k 0)) (fun k => LN.getD k 0) res) : rC = res.map σ ∧ ∀ e, res = some e → aLive A e := by
  subst eA
  have ho := hC.2.2.2.2.2.2.1
  have hlen : or_s h (t_od h x) = LN.length := (c_size ho).trans ho.2.1.symm
  rw [hlen] at hor
  have at9 : ∀ i, i < LN.length → ∃ e, LN[i]? = some e ∧ LN.getD i 0 = e ∧ aLive (mA g r) e := fun i hi => by
    have h1 : LN[i]? = some LN[i] := List.getElem?_eq_getElem hi
    exact ⟨_, h1, getD_at h1, (ho.2.2.2.2.2.1 _).mp (List.mem_of_getElem? h1)⟩
  refine ⟨or_first_same (fun i hi => ?_) (fun i hi => ?_) hor hres, fun e he => ?_⟩
  · obtain ⟨e, e1, e2, e3⟩ := at9 i hi
    show _ ↔ mGt g r bl (LN.getD i 0)
    rw [e2, or_pm_a hM hC hbl e1, mGt_a hM.1 hbl e3]
  · obtain ⟨e, e1, e2, e3⟩ := at9 i hi
    rw [e2]; exact c_N ho e1
  · rcases hres with ⟨z, -⟩ | ⟨i, -, i2, -, -, z⟩
    · rw [z] at he; cases he
    · obtain ⟨e', e1, e2, e3⟩ := at9 i i2
      rw [z] at he
      cases he
      show aLive (mA g r) (LN.getD i 0)
      rw [e2]; exact e3
theorem c_W (hok : mo_ok g r) (hap : mo_ap g r) (hM : aM (mA g r) (mQ g r) n sw t2) : mo_W g r sw t2 := by
  obtain ⟨m1, m2, m3, m4, m5, m6, m7, m8, m9, m10, m11, m12, m13⟩ := hM
  refine ⟨m8.1, fun z => ?_, hok, hap, m1, m2, m3, fun z => ?_, m4, m6⟩
  · rcases m8.2.2 with ⟨q, -⟩ | ⟨-, -, -, q, -⟩
    · exact absurd q z
    · exact q
  · rcases m8.2.2 with ⟨-, q⟩ | ⟨q1, q2, q3, -⟩
    · exact absurd q z
    · exact ⟨q1, q2, q3⟩
theorem c_srt (hM : aM (mA g r) (mQ g r) n sw t2) (hmem : ∀ e, e ∈ LN ↔ aLive (mA g r) e) (hLN : ∀ v, PV (mA g r) (mQ g r) sw v → LN.Pairwise (fo_R (aLive (mA g r)) (aP (mA g r)) (s1 (mA g r) (mQ g r) t2 v))) {y : Nat → Nat → Int64} {Ls : List Nat} {xx : Nat → Nat → Int32} (hS : mo_Sd g r sw t2 y Ls xx) : Ls = LN := by
  have hP := mVl_PV hS.1
  have hsb := s1_sb (f := mQ g r) (t2 := t2) (v := y (mf g r 20)) hM.2.2.2.2.1
  have hw := aWl_fo hM.1
  obtain ⟨q1, q2⟩ := mSrt_R hw hsb (F := mFst (mo_ly g y) r t2) (fun a b ha hb => by
    rw [← fo_F_iff hw hsb ha hb]
    exact mF_a (mo_ly g y) r t2 a b 4 1) 60 Ls hS.2.1
  refine fo_uniq q1 (hLN _ hP) (fun e => ?_)
  rw [q2 e, hmem e]
  exact ⟨fun z => z.2, fun z => ⟨z.1, z⟩⟩
/-- where one stands -/
theorem c_ix {y : Nat → Nat → Int64} {xx : Nat → Nat → Int32} (hnd : LN.Nodup) (h60 : LN.length ≤ 60) (hl : ∀ e ∈ LN, e < 60) (hX : mX (mf g r 19) xx 0 LN) {w j : Nat} (hj : LN[j]? = some w) : mIx (mo_so g y xx) r w j := by
  have hjl := (List.getElem?_eq_some_iff.mp hj).1
  have rd : ∀ i e, LN[i]? = some e → ma (mo_so g y xx) r 19 i = nI e := fun i e he => by
    have := hX i e he
    rw [Nat.zero_add] at this
    exact this
  refine ⟨by omega, rd j w hj, fun i hi z => ?_⟩
  have hi9 : LN[i]? = some LN[i] := List.getElem?_eq_getElem (by omega)
  rw [rd i _ hi9] at z
  have := nI_eqI9 (by have := hl _ (List.mem_of_getElem? hi9); omega) (by have := hl w (List.mem_of_getElem? hj); omega) z
  have := nd_idx hnd hi9 (by rw [this]; exact hj)
  omega
/-- the class's place of the position -/
theorem c_bf (hM : aM A f n sw t2) (hC : CA h x m27 A f σ κ LB LN sw t2) {i : Nat} (hb : t_bf h x i) : (f 28 = 0 ∧ i = 0 ∧ zz_fI h 6 1 (t_ps h x) = 0) ∨ (f 28 = 1 ∧ (∃ w, f 29 = nI w ∧ LN[i]? = some w) ∧ zz_fI h 6 1 (t_ps h x) = 1) ∨ (f 28 = 2 ∧ (∃ w, f 29 = nI w ∧ LN[i]? = some w) ∧ zz_fI h 6 1 (t_ps h x) = 0) ∨ (f 28 = 3 ∧ i = LN.length ∧ zz_fI h 6 1 (t_ps h x) = 0) := by
  have ho := hC.2.2.2.2.2.2.1
  have hlen : or_s h (t_od h x) = LN.length := (c_size ho).trans ho.2.1.symm
  have mark : ∀ w, aLive A w → zz_fR h 6 0 (t_ps h x) = some (σ w) → LN[i]? = some w := fun w lw hm => by
    rcases hb with ⟨s9, b1, b2, b3, b4⟩ | ⟨b1, -⟩ | ⟨b1, -⟩
    · rw [hm] at b1
      cases b1
      obtain ⟨j, hj⟩ := List.getElem?_of_mem ((ho.2.2.2.2.2.1 w).mpr lw)
      have hjl := (List.getElem?_eq_some_iff.mp hj).1
      rw [hlen] at b2 b4
      rcases Nat.lt_trichotomy i j with q | q | q
      · have h9 := b4 (by omega)
        have hi9 : LN[i]? = some LN[i] := List.getElem?_eq_getElem (by omega)
        rw [ho.2.2.2.1 i _ hi9] at h9
        have := c_σinj hC.2.2.2.1 hM.2.2.2.2.1 ((ho.2.2.2.2.2.1 _).mp (List.mem_of_getElem? hi9)) lw (Option.some.inj h9)
        rw [this] at hi9; exact hi9
      · rw [q]; exact hj
      · exact absurd (ho.2.2.2.1 j w hj) (b3 j q)
    · rw [hm] at b1; cases b1
    · rw [hm] at b1; cases b1
  rcases hC.2.2.2.2.2.2.2.1 with ⟨z1, z2, z3, z4⟩ | ⟨z1, w, lw, z2, z3, z4⟩ | ⟨z1, w, lw, z2, z3, z4⟩ | ⟨z1, z2, z3, z4⟩
  · refine Or.inl ⟨z1, ?_, z3⟩
    rcases hb with ⟨s9, b1, -⟩ | ⟨-, -, b3⟩ | ⟨-, b2, -⟩
    · rw [z2] at b1; cases b1
    · exact b3
    · exact absurd z4 b2
  · exact Or.inr (Or.inl ⟨z1, ⟨w, z2, mark w lw z3⟩, z4⟩)
  · exact Or.inr (Or.inr (Or.inl ⟨z1, ⟨w, z2, mark w lw z3⟩, z4⟩))
  · refine Or.inr (Or.inr (Or.inr ⟨z1, ?_, z3⟩))
    rcases hb with ⟨s9, b1, -⟩ | ⟨-, b2, -⟩ | ⟨-, -, b3⟩
    · rw [z2] at b1; cases b1
    · rw [z4] at b2; exact absurd b2 (by decide)
    · rw [b3, hlen]
/-- a segment is got -/
def qG (f : aF) (e : Nat) (hd : Int32) : aF := qU (qU (qU (qU f 30 (-1)) 28 1) 29 (nI e)) 30 (if hd = 0 then -1 else nI e)
theorem CA_gt (hC : CA h x m27 A f σ κ LB LN sw t2) {e : Nat} (le : aLive A e) (hd : Int32) : CA (t_gt (t_h0 h x) x (σ e) hd) x m27 A (qG f e hd) σ κ LB LN sw t2 := by
  obtain ⟨c1, c2, c3, c4, c5, c6, c7, c8, r1, r2, r3, r4, r5, r6⟩ := CA_h0 hC
  by_cases h0 : hd = 0
  · have e1 : t_gt (t_h0 h x) x (σ e) hd = zz_pI (zz_pI (zz_pR (t_h0 h x) 6 0 (t_ps h x) (some (σ e))) 6 1 (t_ps h x) 1) 6 2 (t_ps h x) 0 := if_pos h0
    have e2 : qG f e hd = qU (qU (qU (qU f 30 (-1)) 28 1) 29 (nI e)) 30 (-1) := by rw [qG, if_pos h0]
    rw [e1, e2]
    exact ⟨c1, c2, c3, c4, c5, c6, c7, Or.inr (Or.inl ⟨rfl, e, le, rfl, zz_pR_a _ _ _ _ _, zz_pI_a _ _ _ _ _⟩), r1, r2, r3, r4, r5, r6⟩
  · have e1 : t_gt (t_h0 h x) x (σ e) hd = zz_pR (zz_pI (zz_pI (zz_pR (t_h0 h x) 6 0 (t_ps h x) (some (σ e))) 6 1 (t_ps h x) 1) 6 2 (t_ps h x) 0) 0 5 x (some (σ e)) := if_neg h0
    have e2 : qG f e hd = qU (qU (qU (qU f 30 (-1)) 28 1) 29 (nI e)) 30 (nI e) := by rw [qG, if_neg h0]
    rw [e1, e2]
    exact ⟨c1, c2, c3, c4, c5, c6, c7, Or.inr (Or.inl ⟨rfl, e, le, rfl, zz_pR_a _ _ _ _ _, zz_pI_a _ _ _ _ _⟩), r1, r2, r3, r4, (zz_pR_a _ _ _ _ _).trans (oS_s le.1 rfl).symm, r6⟩
theorem aM_gt (hM : aM A f n sw t2) {e : Nat} (le : aLive A e) (hd : Int32) : aM A (qG f e hd) n sw t2 := by
  obtain ⟨m1, m2, m3, m4, m5, m6, m7, m8, m9, m10, m11, m12, m13⟩ := hM
  refine ⟨m1, m2, m3, m4, m5, m6, m7, m8, m9, m10, m11, ?_, m13⟩
  show aLn A (if hd = 0 then -1 else nI e)
  by_cases h0 : hd = 0
  · rw [if_pos h0]; exact Or.inl rfl
  · rw [if_neg h0]; exact Or.inr ⟨e, le, rfl⟩
theorem gR_gt {A : aA} {f : aF} {g' : zz_H} (hg : gR g g' r A (qU f 30 (-1))) (e : Nat) (hd : Int32) : gR g (mo_gt g' r e hd) r A (qG f e hd) := gR_p (gR_p (gR_p hg (j := 28) (by decide) 1) (j := 29) (by decide) (nI e)) (j := 30) (by decide) _
theorem t_gt_cR (hc : cR h h r) (e : Nat) (hd : Int32) : cR h (t_gt (t_h0 h x) x e hd) r := by
  by_cases h0 : hd = 0
  · have e1 : t_gt (t_h0 h x) x e hd = zz_pI (zz_pI (zz_pR (t_h0 h x) 6 0 (t_ps h x) (some e)) 6 1 (t_ps h x) 1) 6 2 (t_ps h x) 0 := if_pos h0
    rw [e1]; exact hc
  · have e1 : t_gt (t_h0 h x) x e hd = zz_pR (zz_pI (zz_pI (zz_pR (t_h0 h x) 6 0 (t_ps h x) (some e)) 6 1 (t_ps h x) 1) 6 2 (t_ps h x) 0) 0 5 x (some e) := if_neg h0
    rw [e1]; exact hc
theorem t_gt_tg (e : Nat) (hd : Int32) : zz_tg (t_gt h x e hd) = zz_tg h := by
  unfold t_gt
  split <;> rfl
end GT
section GG
variable {h g : zz_H} {x n r u : Nat} {σ κ : Nat → Nat} {LB LN : List Nat} {sw t2 : Nat}
/-- the reference's search, whatever the class did with its own -/
theorem fin_get (hM : aM (mA h r) (mQ h r) n sw t2) (hC : CA h x (mf h r 27) (mA h r) (mQ h r) σ κ LB LN sw t2) (hc : cR h g r) (hu : zz_tg g u = some (92, 1)) {bl : Option Nat} (hbl : ∀ b, bl = some b → aLive (mA h r) b) {fs : Nat} {rC : Option Nat} (hor : or_first (or_s h (t_od h x)) fs (or_pm h (t_od h x) (t_pa h x) (bl.map σ)) (or_N h (t_od h x)) rC) {hd : Int32} {post : Option zz_V → zz_H → Prop}
    (p0 : rC = none → ∀ g2, gR g g2 r (mA h r) (qU (mQ h r) 30 (-1)) → zz_fI g2 7 0 r = 0 → post (some (zz_i 0)) g2) (p1 : ∀ e, rC = some (σ e) → aLive (mA h r) e → ∀ g2, gR g g2 r (mA h r) (qG (mQ h r) e hd) → zz_fI g2 7 0 r = 0 → post (some (zz_i (mA h r 14 e))) g2)
    {y : Nat → Nat → Int64} {Ls : List Nat} {xx : Nat → Nat → Int32} (hS : mo_Sd (mo_bg g r) r sw t2 y Ls xx) : Ls = LN ∧ mGp (mo_so (mo_bg g r) y xx) r fs bl hd Ls post := by
  have ho := hC.2.2.2.2.2.2.1
  have eA : mA (mo_bg g r) r = mA h r := hc.2.2.1
  have eQ : mQ (mo_bg g r) r = qU (mQ h r) 30 (-1) := by rw [mQ_bg, hc.2.2.2.1]
  have hLs : Ls = LN := c_srt (g := mo_bg g r) (n := n) (by rw [eA, eQ]; exact aM_h0 hM) (by rw [eA]; exact ho.2.2.2.2.2.1) (by rw [eA, eQ]; exact ho.2.2.2.2.2.2.2) hS
  refine ⟨hLs, fun res hres => ?_⟩
  subst hLs
  have hg : gR g (mo_so (mo_bg g r) y xx) r (mA h r) (qU (mQ h r) 30 (-1)) := gR_so (gR_bg (gR_of hc)) hS.2.2.2 hS.1.1
  have h0 : zz_fI (mo_so (mo_bg g r) y xx) 7 0 r = 0 := zz_pI_a _ _ _ _ _
  obtain ⟨q1, q2⟩ := c_found hM hC hbl hor hg.2.1 hres
  refine ⟨fun z => p0 (by rw [q1, z]; rfl) _ hg h0, fun s z => ?_⟩
  have ls := q2 s z
  have e14 : ma (mo_so (mo_bg g r) y xx) r 14 s = mA h r 14 s := by
    have := congrArg (fun z => z 14 s) hg.2.1
    exact this
  rw [e14]
  exact p1 s (by rw [q1, z]; rfl) ls _ (gR_gt hg s hd) h0
/-- the reference's place of the position -/
theorem fin_bh (hM : aM (mA h r) (mQ h r) n sw t2) (hC : CA h x (mf h r 27) (mA h r) (mQ h r) σ κ LB LN sw t2) (hc : cR h g r) {y : Nat → Nat → Int64} {xx : Nat → Nat → Int32} (hS : mo_Sd (mo_bg g r) r sw t2 y LN xx) {i : Nat} (hb : t_bf h x i) :
    (mBh (mo_so (mo_bg g r) y xx) r (i + if zz_fI h 6 1 (t_ps h x) = 0 then 0 else 1) ∧ (i + if zz_fI h 6 1 (t_ps h x) = 0 then 0 else 1) ≤ 61) ∧ (mQ h r 28 = 1 → ∃ w, zz_fI g 7 29 r = nI w ∧ mIx (mo_so (mo_bg g r) y xx) r w i) ∧ (mQ h r 28 ≠ 1 → mBh (mo_so (mo_bg g r) y xx) r i) := by
  have ho := hC.2.2.2.2.2.2.1
  have hlen := c_len ho
  have h60 : LN.length ≤ 60 := by rw [ho.2.1]; exact hlen.2
  have hl9 : ∀ e ∈ LN, e < 60 := fun e he => ((ho.2.2.2.2.2.1 e).mp he).1
  have hnd : LN.Nodup := by
    have hP := mVl_PV (h := mo_bg g r) hS.1
    have eA : mA (mo_bg g r) r = mA h r := hc.2.2.1
    have eQ : mQ (mo_bg g r) r = qU (mQ h r) 30 (-1) := by rw [mQ_bg, hc.2.2.2.1]
    rw [eA, eQ] at hP
    exact pw_nodup (fun a => fo_R_irr a) (ho.2.2.2.2.2.2.2 _ hP)
  have q28 : zz_fI (mo_so (mo_bg g r) y xx) 7 28 r = mQ h r 28 := by rw [← hc.2.2.2.1]; rfl
  have q29 : zz_fI (mo_so (mo_bg g r) y xx) 7 29 r = mQ h r 29 := by rw [← hc.2.2.2.1]; rfl
  have q29' : zz_fI g 7 29 r = mQ h r 29 := by rw [← hc.2.2.2.1]; rfl
  have q13 : zz_fI (mo_so (mo_bg g r) y xx) 7 13 r = nI LN.length := by
    have : zz_fI (mo_so (mo_bg g r) y xx) 7 13 r = mQ h r 13 := by rw [← hc.2.2.2.1]; rfl
    rw [this, hM.2.2.2.2.2.1, ho.2.1, hlen.1]
  rcases c_bf hM hC hb with ⟨z1, z2, z3⟩ | ⟨z1, ⟨w, z2, z4⟩, z3⟩ | ⟨z1, ⟨w, z2, z4⟩, z3⟩ | ⟨z1, z2, z3⟩
  · rw [z3, if_pos rfl]
    have hbh : mBh (mo_so (mo_bg g r) y xx) r i := Or.inl ⟨q28.trans z1, z2⟩
    exact ⟨⟨hbh, by omega⟩, fun z => absurd (z1.symm.trans z) (by decide), fun _ => hbh⟩
  · have hix := c_ix (g := mo_bg g r) (y := y) hnd h60 hl9 hS.2.2.1 z4
    have := (List.getElem?_eq_some_iff.mp z4).1
    rw [z3, if_neg (by decide)]
    exact ⟨⟨Or.inr (Or.inl ⟨q28.trans z1, w, i, q29.trans z2, hix, rfl⟩), by omega⟩, fun _ => ⟨w, q29'.trans z2, hix⟩, fun z => absurd z1 z⟩
  · have hix := c_ix (g := mo_bg g r) (y := y) hnd h60 hl9 hS.2.2.1 z4
    have := (List.getElem?_eq_some_iff.mp z4).1
    rw [z3, if_pos rfl]
    have hbh : mBh (mo_so (mo_bg g r) y xx) r i := Or.inr (Or.inr (Or.inl ⟨q28.trans z1, w, i, q29.trans z2, hix, rfl⟩))
    exact ⟨⟨hbh, by omega⟩, fun z => absurd (z1.symm.trans z) (by decide), fun _ => hbh⟩
  · rw [z3, if_pos rfl]
    have hbh : mBh (mo_so (mo_bg g r) y xx) r i := Or.inr (Or.inr (Or.inr ⟨by rw [q28, z1]; decide, by rw [q28, z1]; decide, by rw [q28, z1]; decide, by rw [q13, z2]⟩))
    exact ⟨⟨hbh, by omega⟩, fun z => absurd (z1.symm.trans z) (by decide), fun _ => hbh⟩
end GG
theorem ok_unique : st_unique Rel := fun n h x r u p1 hn hR _ hb => by
  obtain ⟨hok, hap, hu, σ, κ, LB, LN, sw, t2, hM, hC⟩ := hR
  have hbl : ∀ b, (none : Option Nat) = some b → aLive (mA h r) b := fun b z => by cases z
  have c0 : cR h h r := cR_rf hok hap
  refine ⟨_, ⟨x, p1, rfl, CA_twf hM hC, hb, fun rC hor => ⟨fun hz => ⟨0, rfl, ?_⟩, fun s hz => ⟨_, rfl, ?_⟩⟩⟩, fun _ _ z => z⟩
  · have c1 : cR h (t_h0 h x) r := c0
    refine ⟨_, ⟨r, p1, sw, t2, rfl, hb, c_W (n := n) hok hap hM, fun y Ls xx hS => (fin_get (g := t_h0 h x) hM hC c1 hu hbl hor (fun _ g2 hg _ => ⟨rfl, Rel_of hg hu (aM_up (aM_h0 hM)) (CA_h0 hC)⟩) (fun e z => by rw [hz] at z; cases z) hS).2⟩, fun _ _ z => z⟩
  · subst hz
    have c1 : cR h (t_gt (t_h0 h x) x s p1) r := t_gt_cR c0 _ _
    have hu1 : zz_tg (t_gt (t_h0 h x) x s p1) u = some (92, 1) := by rw [t_gt_tg]; exact hu
    refine ⟨_, ⟨r, p1, sw, t2, rfl, hb, c_W (n := n) c1.1 c1.2.1 (by rw [c1.2.2.1, c1.2.2.2.1]; exact hM), fun y Ls xx hS => (fin_get (g := t_gt (t_h0 h x) x s p1) hM hC c1 hu1 hbl hor (fun z => by cases z) (fun e z le g2 hg _ => ?_) hS).2⟩, fun _ _ z => z⟩
    have es : s = σ e := Option.some.inj z
    subst es
    refine ⟨?_, Rel_of hg hu1 (aM_up (aM_gt hM le p1)) (by rw [c1.2.2.2.2]; exact CA_gt hC le p1)⟩
    rw [(hC.2.2.2.1.2.2 e le).2.1]
theorem ok_next : st_next Rel := fun n h x r u p1 hn hR _ hb => by
  obtain ⟨hok, hap, hu, σ, κ, LB, LN, sw, t2, hM, hC⟩ := hR
  have hbl : ∀ b, (none : Option Nat) = some b → aLive (mA h r) b := fun b z => by cases z
  have c0 : cR h h r := cR_rf hok hap
  refine ⟨_, ⟨x, p1, rfl, CA_twf hM hC, hb, fun i rC hbf hor => ⟨fun hz => ⟨0, rfl, ?_⟩, fun s hz => ⟨_, rfl, ?_⟩⟩⟩, fun _ _ z => z⟩
  · have c1 : cR h (t_h0 h x) r := c0
    refine ⟨_, ⟨r, p1, sw, t2, rfl, hb, c_W (n := n) hok hap hM, fun y Ls xx hS => ?_⟩, fun _ _ z => z⟩
    obtain ⟨k1, k2⟩ := fin_get (g := t_h0 h x) hM hC c1 hu hbl hor (post := fun w h2 => w = some (zz_i 0) ∧ Rel (n + 1) h2 x r u) (hd := p1) (fun _ g2 hg _ => ⟨rfl, Rel_of hg hu (aM_up (aM_h0 hM)) (CA_h0 hC)⟩) (fun e z => by rw [hz] at z; cases z) hS
    subst k1
    obtain ⟨b1, -⟩ := fin_bh hM hC c1 hS hbf
    exact ⟨_, b1.2, b1.1, k2⟩
  · subst hz
    have c1 : cR h (t_gt (t_h0 h x) x s p1) r := t_gt_cR c0 _ _
    have hu1 : zz_tg (t_gt (t_h0 h x) x s p1) u = some (92, 1) := by rw [t_gt_tg]; exact hu
    refine ⟨_, ⟨r, p1, sw, t2, rfl, hb, c_W (n := n) c1.1 c1.2.1 (by rw [c1.2.2.1, c1.2.2.2.1]; exact hM), fun y Ls xx hS => ?_⟩, fun _ _ z => z⟩
    obtain ⟨k1, k2⟩ := fin_get (g := t_gt (t_h0 h x) x s p1) hM hC c1 hu1 hbl hor (post := fun w h2 => w = some (zz_i (zz_fI h 2 0 s)) ∧ Rel (n + 1) h2 x r u) (hd := p1) (fun z => by cases z) (fun e z le g2 hg _ => by
      have es : s = σ e := Option.some.inj z
      subst es
      exact ⟨by rw [(hC.2.2.2.1.2.2 e le).2.1], Rel_of hg hu1 (aM_up (aM_gt hM le p1)) (by rw [c1.2.2.2.2]; exact CA_gt hC le p1)⟩) hS
    subst k1
    obtain ⟨b1, -⟩ := fin_bh hM hC c1 hS hbf
    exact ⟨_, b1.2, b1.1, k2⟩
theorem ok_place : st_place Rel := fun n h x r u hn hR _ => by
  obtain ⟨hok, hap, hu, σ, κ, LB, LN, sw, t2, hM, hC⟩ := hR
  have ho := hC.2.2.2.2.2.2.1
  have c1 : cR h (t_h0 h x) r := cR_rf hok hap
  refine ⟨_, ⟨x, rfl, CA_twf hM hC, fun i hbf => ⟨_, rfl, _, ⟨r, sw, t2, rfl, c_W (n := n) hok hap hM, fun y Ls xx hS => ?_⟩, fun _ _ z => z⟩⟩, fun _ _ z => z⟩
  have hLs : Ls = LN := c_srt (g := mo_bg (t_h0 h x) r) (n := n) (by rw [mQ_bg]; exact aM_h0 hM) ho.2.2.2.2.2.1 (by rw [mQ_bg]; exact ho.2.2.2.2.2.2.2) hS
  subst hLs
  have hg : gR (t_h0 h x) (mo_so (mo_bg (t_h0 h x) r) y xx) r (mA h r) (qU (mQ h r) 30 (-1)) := gR_so (gR_bg (gR_of c1)) hS.2.2.2 hS.1.1
  have fin : Rel (n + 1) (mo_so (mo_bg (t_h0 h x) r) y xx) x r u := Rel_of hg hu (aM_up (aM_h0 hM)) (CA_h0 hC)
  obtain ⟨-, b2, b3⟩ := fin_bh hM hC c1 hS hbf
  refine ⟨fun z => ?_, fun z => ⟨i, b3 z, rfl, fin⟩⟩
  obtain ⟨w, w1, w2⟩ := b2 z
  exact ⟨w, i, w1, w2, rfl, fin⟩
theorem ok_within : st_within Rel := fun n h x r u p1 hn hR _ hb => by
  obtain ⟨hok, hap, hu, σ, κ, LB, LN, sw, t2, hM, hC⟩ := hR
  have c0 : cR h h r := cR_rf hok hap
  have hfx := hC.2.2.2.2.2.2.2.2.2.2.2.2.2
  rcases hM.2.2.2.2.2.2.2.2.2.2.2.2.1 with z31 | ⟨b, lb, z31⟩
  · have e6 : zz_fR h 0 6 x = none := hfx.trans (oS_n z31)
    refine ⟨_, ⟨x, p1, u, rfl, Or.inr ⟨x, p1, rfl, CA_twf hM hC, fun _ => ⟨rfl, 1, rfl, _, ⟨r, p1, sw, t2, none, rfl, hb, z31, fun b z => (by cases z), c_W (n := n) hok hap hM, fun _ => ⟨0, rfl, zz_pI_a _ _ _ _ _, fun z => absurd z (by decide), Rel_of (g := t_h0 h x) (gR_p0 (gR_bg (gR_of (show cR h (t_h0 h x) r from c0))) 1) hu (aM_up (aM_h0 hM)) (CA_h0 hC)⟩, fun z => absurd rfl z⟩, fun _ _ z => z⟩, fun f i rC z => (by rw [e6] at z; cases z)⟩⟩, fun _ _ z => z⟩
  · have e6 : zz_fR h 0 6 x = some (σ b) := hfx.trans (oS_s lb.1 z31)
    have hbl : ∀ b', some b = some b' → aLive (mA h r) b' := fun b' z => by cases z; exact lb
    have h60 : ∀ b', some b = some b' → b' < 60 := fun b' z => (hbl b' z).1
    refine ⟨_, ⟨x, p1, u, rfl, Or.inl ⟨x, p1, rfl, CA_twf hM hC, fun z => (by rw [e6] at z; cases z), fun ff i rC zf hbf hor => ?_⟩⟩, fun _ _ z => z⟩
    rw [e6] at zf
    cases zf
    refine ⟨fun hz => ⟨_, rfl, hu, 0, rfl, ?_⟩, fun s hz => ⟨_, rfl, by rw [t_gt_tg]; exact hu, 0, rfl, ?_⟩⟩
    · have c1 : cR h (zz_sL (t_h0 h x) u 0 (Int32.toInt64 0)) r := c0
      refine ⟨_, ⟨r, p1, sw, t2, some b, rfl, hb, z31, h60, c_W (n := n) hok hap hM, fun z => (by cases z), fun _ y Ls xx hS => ?_⟩, fun _ _ z => z⟩
      obtain ⟨k1, k2⟩ := fin_get (g := zz_sL (t_h0 h x) u 0 (Int32.toInt64 0)) hM hC c1 hu hbl hor (post := fun w h2 => ∃ b, w = some (zz_i b) ∧ zz_fI h2 7 0 r = 0 ∧ ((0 : Int32) = 0 → zz_aL h2 u 0 = b.toInt64) ∧ Rel (n + 1) h2 x r u) (hd := p1) (fun _ g2 hg h0 => ⟨0, rfl, h0, fun _ => by rw [gR_u hg hu]; exact if_pos ⟨rfl, rfl⟩, Rel_of hg hu (aM_up (aM_h0 hM)) (CA_h0 hC)⟩) (fun e z => by rw [hz] at z; cases z) hS
      subst k1
      obtain ⟨b1, -⟩ := fin_bh hM hC c1 hS hbf
      exact ⟨_, b1.2, b1.1, k2⟩
    · subst hz
      have c1 : cR h (zz_sL (t_gt (t_h0 h x) x s p1) u 0 (zz_fI h 2 0 s).toInt64) r := cR_sL (t_gt_cR c0 _ _) _ _ _
      have hu1 : zz_tg (zz_sL (t_gt (t_h0 h x) x s p1) u 0 (zz_fI h 2 0 s).toInt64) u = some (92, 1) := by
        show zz_tg (t_gt (t_h0 h x) x s p1) u = some (92, 1)
        rw [t_gt_tg]; exact hu
      refine ⟨_, ⟨r, p1, sw, t2, some b, rfl, hb, ?_, h60, c_W (n := n) c1.1 c1.2.1 (by rw [c1.2.2.1, c1.2.2.2.1]; exact hM), fun z => (by cases z), fun _ y Ls xx hS => ?_⟩, fun _ _ z => z⟩
      · have := congrArg (fun q => q 31) c1.2.2.2.1
        exact this.trans z31
      · have pe : ∀ e, some s = some (σ e) → aLive (mA h r) e → ∀ g2, gR (zz_sL (t_gt (t_h0 h x) x s p1) u 0 (zz_fI h 2 0 s).toInt64) g2 r (mA h r) (qG (mQ h r) e p1) → zz_fI g2 7 0 r = 0 → ∃ b, some (zz_i (mA h r 14 e)) = some (zz_i b) ∧ zz_fI g2 7 0 r = 0 ∧ ((0 : Int32) = 0 → zz_aL g2 u 0 = b.toInt64) ∧ Rel (n + 1) g2 x r u := by
          intro e z le g2 hg h0
          have es : s = σ e := Option.some.inj z
          subst es
          have hC1 : CA (zz_sL (t_gt (t_h0 h x) x (σ e) p1) u 0 (zz_fI h 2 0 (σ e)).toInt64) x (mf (zz_sL (t_gt (t_h0 h x) x (σ e) p1) u 0 (zz_fI h 2 0 (σ e)).toInt64) r 27) (mA h r) (qG (mQ h r) e p1) σ κ LB LN sw t2 := by
            rw [c1.2.2.2.2]; exact CA_sL (CA_gt hC le p1) _ _ _
          refine ⟨_, rfl, h0, fun _ => ?_, Rel_of hg hu1 (aM_up (aM_gt hM le p1)) hC1⟩
          rw [gR_u hg hu1, ← (hC.2.2.2.1.2.2 e le).2.1]
          exact if_pos ⟨rfl, rfl⟩
        obtain ⟨k1, k2⟩ := fin_get (g := zz_sL (t_gt (t_h0 h x) x s p1) u 0 (zz_fI h 2 0 s).toInt64) hM hC c1 hu1 hbl hor (post := fun w h2 => ∃ b, w = some (zz_i b) ∧ zz_fI h2 7 0 r = 0 ∧ ((0 : Int32) = 0 → zz_aL h2 u 0 = b.toInt64) ∧ Rel (n + 1) h2 x r u) (hd := p1) (fun z => by cases z) pe hS
        subst k1
        obtain ⟨b1, -⟩ := fin_bh hM hC c1 hS hbf
        exact ⟨_, b1.2, b1.1, k2⟩
/-! insert -/
/-- what the reference holds behind an insert -/
def aFin (A : aA) (s t : Nat) (pv nv : Int32) (ln : Nat) (best : Option Nat) : aA := match best with
  | none => aNx A s t pv nv ln
  | some b => aU (aU (aPw (aNx A s t pv nv ln) b ln) 17 b (nI s)) 17 s (nI b)
section JN
variable {h h4 g k : zz_H} {x m27 n r s t ln : Nat} {A : aA} {f f4 : aF} {σ σ' κ : Nat → Nat} {LB LN : List Nat} {sw t2 : Nat} {pv nv v13 : Int32}
theorem aJn_eq {b : Nat} (hne : s ≠ b) : aPw (aU (aPw (aNw A s t pv nv (nI b)) s ln) 17 b (nI s)) b ln = aU (aU (aPw (aNx A s t pv nv ln) b ln) 17 b (nI s)) 17 s (nI b) := by
  funext j i
  by_cases j7 : j = 17
  · subst j7
    show aU (aPw (aNw A s t pv nv (nI b)) s ln) 17 b (nI s) 17 i = _
    by_cases e1 : i = s
    · subst e1
      rw [aU_eq, aU_ne hne]
      exact aNw_17
    · rw [aU_ne e1]
      by_cases e2 : i = b
      · subst e2
        rw [aU_eq, aU_eq]
      · rw [aU_ne e2, aU_ne e2]
        show aNw A s t pv nv (nI b) 17 i = aNw A s t pv nv (-1) 17 i
        rw [aNw_ne e1, aNw_ne e1]
  · by_cases j8 : j = 18
    · subst j8
      rfl
    · have e1 : aPw (aU (aPw (aNw A s t pv nv (nI b)) s ln) 17 b (nI s)) b ln j i = aNw A s t pv nv (nI b) j i := by
        refine (if_neg (fun z => j8 z.1)).trans ((if_neg (fun z => j7 z.1)).trans (if_neg (fun z => j8 z.1)))
      have e2 : aU (aU (aPw (aNx A s t pv nv ln) b ln) 17 b (nI s)) 17 s (nI b) j i = aNw A s t pv nv (-1) j i := by
        refine (if_neg (fun z => j7 z.1)).trans ((if_neg (fun z => j7 z.1)).trans ((if_neg (fun z => j8 z.1)).trans (if_neg (fun z => j8 z.1))))
      rw [e1, e2]
      exact (if_neg (fun z => j7 z.1)).trans (if_neg (c := j = 17 ∧ i = s) (fun z => j7 z.1)).symm
theorem gR_in (hg : gR g k r A f) {best : Option Nat} (e12 : f 12 + 1 = nv) (e13 : f 13 + 1 = v13) (hb : ∀ b, best = some b → s ≠ b) : gR g (mo_in k r s t pv best ln) r (aFin A s t pv nv ln best) (qU (qU (qU (qU f 12 nv) 13 v13) 28 1) 29 (nI s)) := by
  have q12 : zz_fI k 7 12 r = f 12 := congrArg (fun q => q 12) hg.2.2.1
  have q13 : zz_fI k 7 13 r = f 13 := congrArg (fun q => q 13) hg.2.2.1
  have i6 : ∀ ov, gR g (mo_i6 k r s t pv ov nv v13) r (aNw A s t pv nv ov) (qU (qU f 12 nv) 13 v13) := fun ov =>
    gR_s (gR_s (gR_s (gR_s (gR_p (gR_p hg (j := 12) (by decide) nv) (j := 13) (by decide) v13) (j := 14) rfl s nv rfl) (j := 15) rfl s (nI t) rfl) (j := 16) rfl s pv rfl) (j := 17) rfl s ov rfl
  unfold mo_in
  rw [q12, q13, e12, e13]
  refine gR_p (gR_p ?_ (j := 28) (by decide) 1) (j := 29) (by decide) (nI s)
  cases best with
  | none => exact gR_pw (i6 (-1)) s ln
  | some b =>
    have := gR_pw (gR_s (gR_pw (i6 (nI b)) s ln) (j := 17) rfl b (nI s) (b := mf k r 17) rfl) b ln
    rw [aJn_eq (hb b rfl)] at this
    exact this
theorem c_sq4 (hM : aM A f n sw t2) {a : Nat} (la : aLive A a) : aSqv A a < 4 := by
  obtain ⟨-, k8, -⟩ := hM.1 a la
  obtain ⟨-, -, -, -, ln, l1, l2, l3, l4⟩ := hM.2.1 _ k8 (hM.2.2.1 a la)
  rcases l4 with z | ⟨j, j1, j2⟩
  · rw [aSqv, z]; decide
  · rw [aSqv, j2, nI_clamp (by omega)]; omega
theorem s0_new (hM : aM A f n sw t2) (ns : ¬ aLive A s) (l4 : ln ≤ 4) {a b : Nat} (la : aLive A a) (lb : aLive A b) : s0 (aNx A s t pv nv ln) a b ↔ s0 A a b := by
  have na : a ≠ s := fun z => ns (z ▸ la)
  have nb : b ≠ s := fun z => ns (z ▸ lb)
  have q4 := c_sq4 hM la
  have eq : aSqv (aNx A s t pv nv ln) a = aSqv A a := by rw [aSqv, aNx_Ke na]; rfl
  unfold s0 aSq2
  rw [eq, aNx_Ke na, aNx_18 na l4 q4, aNx_18 nb l4 q4, aNx_ne na (by decide), aNx_ne nb (by decide), aNx_ne na (by decide), aNx_ne nb (by decide)]
  exact Iff.rfl
set_option maxHeartbeats 4000000 in
/-- the new one joins its twin, if there is one -/
theorem CN_join (hM : aM A f n sw t2) (t8 : t < 8) (dt : A 1 t ≠ 0) (s60 : s < 60) (hnv : 0 < nv) (ns : ¬ aLive A s) (l4 : ln ≤ 4) (eln : A 4 t = nI ln) {n4 : Nat} (hM4 : aM (aNx A s t pv nv ln) f4 n4 sw t2) (hB4 : CN h4 x m27 (aNx A s t pv nv ln) f4 σ' κ) (hσ : ∀ e, aLive A e → σ' e = σ e) {best : Option Nat} (hb : aBst A t best) : CN (in_h5 h4 x (σ' s) (best.map σ)) x m27 (aFin A s t pv nv ln best) f4 σ' κ ∧ aM (aFin A s t pv nv ln best) f4 n4 sw t2 ∧ (∀ a b, aLive A a → aLive A b → (s0 (aFin A s t pv nv ln best) a b ↔ s0 A a b)) ∧ (∀ j, j ≠ 17 → j ≠ 18 → ∀ i, aFin A s t pv nv ln best j i = aNx A s t pv nv ln j i) ∧ ∀ b, best = some b → s ≠ b := by
  have lv := fun e => aNx_live (A := A) (t := t) (pv := pv) (ln := ln) (e := e) s60 hnv ns
  have nsl : ∀ e, aLive A e → e ≠ s := fun e le z => ns (z ▸ le)
  rcases hb with ⟨rfl, -⟩ | ⟨b, ⟨n8, lb, b15, b17, bw⟩, rfl, -⟩
  · exact ⟨hB4, hM4, fun a b la lb => s0_new hM ns l4 la lb, fun _ _ _ _ => rfl, fun b z => (by cases z)⟩
  · have hne : s ≠ b := (nsl b lb).symm
    have ls4 := (lv s).mpr (Or.inl rfl)
    have lb4 := (lv b).mpr (Or.inr lb)
    obtain ⟨-, u, u8, du, w8, w9, w4, w5, w6⟩ := (hM.2.2.2.2.2.2.2.2.2.1 t t8).resolve_left n8
    obtain ⟨e15, e8, -⟩ := hM.1 b lb
    have ek : aK A b = u := nI_eqI9 (by omega) (by omega) (e15.symm.trans (b15.trans w8))
    have ek4 : aK (aNx A s t pv nv ln) b = u := by rw [aNx_Ke hne.symm, ek]
    have eks : aK (aNx A s t pv nv ln) s = t := aNx_K t8
    obtain ⟨ln', l4', e4', q1, q2⟩ := c_q5 hM t8 dt w6
    have eln' : ln' = ln := nI_eqI9 (by omega) (by omega) (e4'.symm.trans eln)
    have f4b : aNx A s t pv nv ln 4 (aK (aNx A s t pv nv ln) b) = nI ln := by rw [ek4]; show A 4 u = _; rw [← w4]; exact eln
    have sq4 : aSqv (aNx A s t pv nv ln) b = aQ5 A t := by rw [aSqv, ek4]; show (A 5 u).toNatClampNeg = _; rw [← w5]; rfl
    have hsame : aSame (aNx A s t pv nv ln) (aPw (aNx A s t pv nv ln) b ln) := aSame_one lb4 l4 (fun _ => by
      rw [sq4]
      refine ⟨by omega, ?_⟩
      rw [aNx_18 hne.symm l4 (by omega)]; exact bw) (fun a la _ => c_sq4 hM4 la)
    have hT := CN_tw hM4.1 hM4.2.2.1 hM4.2.2.2.2.1 hB4 lb4 l4 f4b
    have hL := CN_lk (A := aPw (aNx A s t pv nv ln) b ln) hM4.2.2.2.2.1 hT ls4 lb4 hne
    rw [hσ b lb] at hL
    refine ⟨hL, ?_, fun a b' la lb' => ?_, fun j j7 j8 i => ?_, fun b' z => (by cases z; exact hne)⟩
    · refine aM_lk hM4 ls4 lb4 hne l4 (by rw [eks]; exact eln) f4b (by rw [eks, ek4]; exact w8) (by rw [eks, ek4]; exact w9) ?_ ?_ (fun i hi => aPw_in (A := aNw A s t pv nv (-1)) hi)
      · rw [aNx_j (by decide)]; exact aNw_17
      · rw [aNx_ne hne.symm (by decide)]; exact b17
    · have h1 := s0_same hsame ((lv a).mpr (Or.inr la)) ((lv b').mpr (Or.inr lb'))
      exact Iff.trans h1 (s0_new hM ns l4 la lb')
    · exact (if_neg (fun z => j7 z.1)).trans ((if_neg (fun z => j7 z.1)).trans (if_neg (fun z => j8 z.1)))
end JN
section IM
variable {h g k : zz_H} {x n r t : Nat} {σ κ : Nat → Nat} {LB LN : List Nat} {sw t2 : Nat}
theorem mm_ins {post : Option zz_V → zz_H → Prop} (hM : aM (mA h r) (mQ h r) n sw t2) (hC : CA h x (mf h r 27) (mA h r) (mQ h r) σ κ LB LN sw t2) (hc : cR h g r) (t8 : t < 8) (hty : mo_ty h r (nI t)) (q : ∀ k res, gR g k r (mA h r) (qU (mQ h r) 30 (-1)) → zz_fI k 7 0 r = 0 → aFnd (mA h r) LN t res → mo_ic k r t res post) : T_M_insert [zz_r 7 (some r), zz_i (nI t)] g post := by
  have ho := hC.2.2.2.2.2.2.1
  have e1 : ∀ i, ma g r 1 i = ma h r 1 i := fun i => congrArg (fun z => z 1 i) hc.2.2.1
  have hty2 : mo_ty g r (nI t) := ⟨hty.1, hty.2.1, by rw [e1]; exact hty.2.2⟩
  refine ⟨r, nI t, sw, t2, rfl, c_W (n := n) hc.1 hc.2.1 (by rw [hc.2.2.1, hc.2.2.2.1]; exact hM), fun w => absurd hty2 w, fun t9 h9 e9 _ k res hfp => ?_⟩
  have : t9 = t := (nI_eqI9 (by omega) (by omega) e9).symm
  subst this
  have e2 : ma g r 2 t9 = mA h r 2 t9 := congrArg (fun z => z 2 t9) hc.2.2.1
  rcases hfp with ⟨z1, rfl, rfl⟩ | ⟨z1, y, Ls, xx, hS, rfl, hor⟩
  · exact q _ _ (gR_bg (gR_of hc)) (zz_pI_a _ _ _ _ _) (Or.inl ⟨e2.symm.trans z1, rfl⟩)
  · have eA : mA (mo_bg g r) r = mA h r := hc.2.2.1
    have eQ : mQ (mo_bg g r) r = qU (mQ h r) 30 (-1) := by rw [mQ_bg, hc.2.2.2.1]
    have hLs : Ls = LN := c_srt (g := mo_bg g r) (n := n) (by rw [eA, eQ]; exact aM_h0 hM) (by rw [eA]; exact ho.2.2.2.2.2.1) (by rw [eA, eQ]; exact ho.2.2.2.2.2.2.2) hS
    subst hLs
    have hg : gR g (mo_so (mo_bg g r) y xx) r (mA h r) (qU (mQ h r) 30 (-1)) := gR_so (gR_bg (gR_of hc)) hS.2.2.2 hS.1.1
    refine q _ _ hg (zz_pI_a _ _ _ _ _) (Or.inr ⟨fun z => z1 (e2.trans z), ?_⟩)
    obtain ⟨b, b1, b2⟩ := or_first_map (P' := fun i => mA h r 15 (Ls.getD i 0) = mA h r 2 t9 ∧ aFo (mA h r) (Ls.getD i 0)) (N' := fun i => Ls.getD i 0) (σ := id) (fun i hi => by
      have h9 : Ls[i]? = some Ls[i] := List.getElem?_eq_getElem hi
      have hd : Ls.getD i 0 = Ls[i] := getD_at h9
      have le : aLive (mA h r) (Ls.getD i 0) := by rw [hd]; exact (ho.2.2.2.2.2.1 _).mp (List.mem_of_getElem? h9)
      have w1 : aWl (mA (mo_so (mo_bg g r) y xx) r) := by rw [hg.2.1]; exact hM.1
      have w2 := mFo_a w1 4 (Ls.getD i 0) (by rw [hg.2.1]; exact le) (by rw [hg.2.1]; have := (hM.1 _ le).2.2.2.2.1; omega)
      rw [hg.2.1] at w2
      have w3 : ma (mo_so (mo_bg g r) y xx) r 15 (Ls.getD i 0) = mA h r 15 (Ls.getD i 0) := congrArg (fun z => z 15 (Ls.getD i 0)) hg.2.1
      have w4 : ma (mo_so (mo_bg g r) y xx) r 2 t9 = mA h r 2 t9 := congrArg (fun z => z 2 t9) hg.2.1
      show (ma (mo_so (mo_bg g r) y xx) r 15 (Ls.getD i 0) = ma (mo_so (mo_bg g r) y xx) r 2 t9 ∧ mFo (mo_so (mo_bg g r) y xx) r 4 (some (Ls.getD i 0))) ↔ _
      rw [w2, w3, w4]) (fun _ _ => rfl) hor
    have : res = b := by rw [b1]; cases b <;> rfl
    rw [this]; exact b2
theorem mm_ic {A : aA} {f : aF} {post : Option zz_V → zz_H → Prop} {res : Option Nat} (hM : aM A f n sw t2) (hg : gR g k r A (qU f 30 (-1))) (t8 : t < 8) (dt : A 1 t ≠ 0) (q1 : res = none → A 2 t ≠ -1 → post (some (zz_i (-2))) k) (q2 : (res ≠ none ∨ A 2 t = -1) → aDup A t (mO res) → post (some (zz_i (-3))) k) (q3 : ¬ aDup A t (mO res) → mCnt (aLive A) 60 = 60 → post (some (zz_i (-4))) k) (q4 : ¬ aDup A t (mO res) → mCnt (aLive A) 60 < 60 → ∃ s ln, s < 60 ∧ ¬ aLive A s ∧ (∀ j, j < s → aLive A j) ∧ A 4 t = nI ln ∧ ln ≤ 4 ∧ ∀ best, aBst A t best → post (some (zz_i (f 12 + 1))) (mo_in k r s t (mO res) best ln)) : mo_ic k r t res post := by
  have eA : ∀ j i, mA k r j i = A j i := fun j i => congrArg (fun z => z j i) hg.2.1
  have e2 : ma k r 2 t = A 2 t := eA 2 t
  have e5 : ∀ u, ma k r 5 u = A 5 u := fun u => eA 5 u
  have e4 : ∀ u, ma k r 4 u = A 4 u := fun u => eA 4 u
  have e8 : ma k r 8 t = A 8 t := eA 8 t
  have e14 : ∀ u, ma k r 14 u = A 14 u := fun u => eA 14 u
  have q12 : zz_fI k 7 12 r = f 12 := congrArg (fun q => q 12) hg.2.2.1
  have q13 : zz_fI k 7 13 r = f 13 := congrArg (fun q => q 13) hg.2.2.1
  have hq5 : ∀ u, mQs k r u = aQ5 A u := fun u => by rw [mQs, e5]; rfl
  have hTK : mTK k r t res ↔ aDup A t (mO res) := by
    have e6 : ma k r 6 t = A 6 t := eA 6 t
    rw [mTK, e6, e5, aDup]
    refine and_congr_right (fun _ => and_congr_right (fun _ => ?_))
    have key : ∀ e, mTk k r t (mO res) e ↔ 0 < A 14 e ∧ A 15 e = nI t ∧ A 16 e = mO res ∧ A 18 (4 * e + aQ5 A t) = A 27 (aQ5 A t) := fun e => by
      have e15 : ma k r 15 e = A 15 e := eA 15 e
      have e16 : ma k r 16 e = A 16 e := eA 16 e
      have e18 : ma k r 18 (4 * e + aQ5 A t) = A 18 (4 * e + aQ5 A t) := eA 18 _
      have e27 : ma k r 27 (aQ5 A t) = A 27 (aQ5 A t) := eA 27 _
      rw [mTk, hq5, e14, e15, e16, e18, e27]
    constructor
    · rintro ⟨e, h1, h2⟩
      obtain ⟨w1, w2⟩ := (key e).mp h2
      exact ⟨e, ⟨h1, w1⟩, w2⟩
    · rintro ⟨e, ⟨h1, w1⟩, w2⟩
      exact ⟨e, h1, (key e).mpr ⟨w1, w2⟩⟩
  have cnt := mCnt_le (aLive A) 60
  have h13 : zz_fI k 7 13 r = 60 ↔ mCnt (aLive A) 60 = 60 := by
    rw [q13, hM.2.2.2.2.2.1]
    constructor
    · intro z; exact nI_eqI9 (by omega) (by omega) z
    · intro z; rw [z]; rfl
  obtain ⟨-, -, -, -, ln, l1, l4, eln, hsq⟩ := hM.2.1 t t8 dt
  refine ⟨fun z1 z2 => q1 z1 (fun w => z2 (e2.trans w)), fun hres => ⟨?_, fun z => q2 (hres.imp id (fun w => e2.symm.trans w)) (hTK.mp z), fun z => ⟨fun w => q3 (fun y => z (hTK.mpr y)) (h13.mp w), fun w => ?_⟩⟩⟩
  · rw [mo_qs, e5, hq5]
    rcases hsq with z | ⟨j, j1, j2⟩
    · exact Or.inl z
    · have : aQ5 A t = j := by rw [aQ5, j2]; exact nI_clamp (by omega)
      exact Or.inr ⟨by rw [this]; exact j2, by omega⟩
  · obtain ⟨s, ln9, s1, s2, s3, s4, s5, s6⟩ := q4 (fun y => z (hTK.mpr y)) (by have : mCnt (aLive A) 60 ≠ 60 := fun y => w (h13.mpr y); omega)
    have hfree : mFree k r s := ⟨s1, fun y => s2 ⟨s1, by rw [← e14]; exact y⟩, fun j hj => by rw [e14]; exact (s3 j hj).2⟩
    rcases hM.2.2.2.2.2.2.2.2.2.1 t t8 with w8 | ⟨-, u, u8, du, w8, w9, w4, w5, w6⟩
    · refine ⟨s, none, ln9, hfree, e8.trans w8, fun u9 y => (by cases y), (e4 t).trans s4, s5, fun best b1 b2 => ?_⟩
      rw [q12]
      refine s6 best (Or.inl ⟨b1 rfl, fun e he => he.1 w8⟩)
    · obtain ⟨ln', l4', e4', q1', q2'⟩ := c_q5 hM t8 dt w6
      have q2u : A 5 u = nI (aQ5 A u) ∧ aQ5 A u < 4 ∧ aQ5 A u = aQ5 A t := by
        have : aQ5 A u = aQ5 A t := by rw [aQ5, aQ5, w5]
        exact ⟨by rw [this, ← w5]; exact q2', by omega, this⟩
      refine ⟨s, some u, ln9, hfree, e8.trans w8, fun u9 y => ?_, (e4 t).trans s4, s5, fun best b1 b2 => ?_⟩
      · cases y
        rw [e5, e5, e4, hq5, hq5]
        exact ⟨⟨u8, q2u.1, q2u.2.1, q2', by omega⟩, w4.symm.trans s4⟩
      · rw [q12]
        have key : ∀ e, e < 60 → (mTf k r t u e ↔ aTf A t e) := fun e he => by
          have e15 : ma k r 15 e = A 15 e := eA 15 e
          have e17 : ma k r 17 e = A 17 e := eA 17 e
          have e18 : ma k r 18 (4 * e + aQ5 A t) = A 18 (4 * e + aQ5 A t) := eA 18 _
          have e27 : ma k r 27 (aQ5 A t) = A 27 (aQ5 A t) := eA 27 _
          rw [mTf, hq5, hq5, q2u.2.2, e14, e15, e17, e18, e27, aTf, w8]
          exact ⟨fun ⟨a1, a2⟩ => ⟨nI_neg (by omega), ⟨he, a1⟩, a2⟩, fun ⟨_, a1, a2⟩ => ⟨a1.2, a2⟩⟩
        refine s6 best ?_
        rcases b2 u rfl with ⟨c1, c2⟩ | ⟨i, c1, c2, c3, c4⟩
        · exact Or.inl ⟨c1, fun e he => c2 e he.2.1.1 ((key e he.2.1.1).mpr he)⟩
        · refine Or.inr ⟨i, (key i c1).mp c2, c3, fun j hj => ?_⟩
          have := c4 j hj.2.1.1 ((key j hj.2.1.1).mpr hj)
          rw [e14, e14] at this
          exact this
end IM
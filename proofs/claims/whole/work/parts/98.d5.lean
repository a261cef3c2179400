/-! more or fewer stand in the forest; a segment is new -/
section EX
variable {live live' : Nat → Prop} {par par' : Nat → Option Nat} {lv lv' : Nat → Nat} {sib sib' : Nat → Nat → Prop}
theorem fo_at_ext (hw : fo_wf live par lv) (h1 : ∀ s, live s → par' s = par s ∧ lv' s = lv s) (l : Nat) : ∀ n s, live s → fo_at par' lv' l n s = fo_at par lv l n s
  | 0, s, _ => rfl
  | n + 1, s, ls => by
    rw [fo_at, fo_at, (h1 s ls).1, (h1 s ls).2]
    obtain ⟨-, -, -, ⟨g1, -⟩ | ⟨p, g1, g2, -⟩⟩ := hw s ls
    · rw [g1]
    · rw [g1]
      show (if _ then s else fo_at par' lv' l n p) = (if _ then s else fo_at par lv l n p)
      rw [fo_at_ext hw h1 l n p g2]
theorem fo_F_ext (hw : fo_wf live par lv) (h1 : ∀ s, live s → par' s = par s ∧ lv' s = lv s) (hs : ∀ a b, live a → live b → (sib' a b ↔ sib a b)) {a b : Nat} (ha : live a) (hb : live b) : ∀ n l, 1 ≤ l → (fo_F par' lv' sib' a b n l ↔ fo_F par lv sib a b n l)
  | 0, l, _ => by rw [fo_F, fo_F, (h1 a ha).2, (h1 b hb).2]
  | n + 1, l, hl => by
    have ih := fo_F_ext hw h1 hs ha hb n (l + 1) (by omega)
    rw [fo_F, fo_F, (h1 a ha).2, (h1 b hb).2, fo_at_ext hw h1 l 3 a ha, fo_at_ext hw h1 l 3 b hb]
    by_cases ho : l ≤ lv a ∧ l ≤ lv b
    · have h2 := hs _ _ (fo_at_lv hw hl ha ho.1).1 (fo_at_lv hw hl hb ho.2).1
      rw [ih, h2]
    · constructor
      · rintro (⟨z1, z2, -⟩ | z)
        · exact absurd ⟨z1, z2⟩ ho
        · exact Or.inr z
      · rintro (⟨z1, z2, -⟩ | z)
        · exact absurd ⟨z1, z2⟩ ho
        · exact Or.inr z
theorem fo_R_ext (hw : fo_wf live par lv) (hb : fo_sb live par sib) (hw' : fo_wf live' par' lv') (hb' : fo_sb live' par' sib') (h0 : ∀ s, live s → live' s) (h1 : ∀ s, live s → par' s = par s ∧ lv' s = lv s) (hs : ∀ a b, live a → live b → (sib' a b ↔ sib a b)) {a b : Nat} (ha : live a) (hl : live b) : fo_R live' par' sib' a b ↔ fo_R live par sib a b := by
  rw [← fo_F_iff hw' hb' (h0 a ha) (h0 b hl), ← fo_F_iff hw hb ha hl]
  exact fo_F_ext hw h1 hs ha hl 4 1 (by omega)
theorem fo_c_ext (hw : fo_wf live par lv) (h1 : ∀ s, live s → par' s = par s) : ∀ n s, live s → fo_ch par' n s = fo_ch par n s
  | 0, s, _ => rfl
  | n + 1, s, ls => by
    rw [fo_ch, fo_ch, h1 s ls]
    obtain ⟨-, -, -, ⟨g1, -⟩ | ⟨p, g1, g2, -⟩⟩ := hw s ls
    · rw [g1]
    · rw [g1]
      show fo_ch par' n p ++ [s] = fo_ch par n p ++ [s]
      rw [fo_c_ext hw h1 n p g2]
theorem fo_in_ext (hw : fo_wf live par lv) (h1 : ∀ s, live s → par' s = par s) {t s : Nat} (ht : live t) (hs : live s) : fo_in par' t s ↔ fo_in par t s := by
  unfold fo_in fo_c
  rw [fo_c_ext hw h1 3 t ht, fo_c_ext hw h1 3 s hs]
end EX
/-- the class's object but for its lists -/
def CN (h : zz_H) (x m27 : Nat) (A : aA) (f : aF) (σ κ : Nat → Nat) : Prop := c_sk h x ∧ c_sp h x m27 ∧ c_kd h x A κ ∧ c_sg h A σ κ ∧ c_pa h x A κ ∧ c_wk h x A ∧ c_po h x A f σ ∧ c_rs h x f σ κ
section CN
variable {h g h2 : zz_H} {x m27 n r : Nat} {A : aA} {f : aF} {σ κ : Nat → Nat} {LB LN : List Nat} {sw t2 : Nat}
theorem CB_CN (hB : CB h x m27 A f σ κ LB) : CN h x m27 A f σ κ := by
  obtain ⟨c1, c2, c3, c4, c5, c6, c7, c8, c9⟩ := hB
  exact ⟨c1, c2, c3, c4, c5, c6, c8, c9⟩
/-- a segment of the class takes the words to work with -/
theorem CN_tw (hW : aWl A) (hK : aKd A) (hN : aNum A) (hB : CN h x m27 A f σ κ) {s : Nat} (ls : aLive A s) {ln : Nat} (l4 : ln ≤ 4) (eln : A 4 (aK A s) = nI ln) : CN (t_tw h x (σ s)) x m27 (aPw A s ln) f σ κ := by
  obtain ⟨c1, c2, c3, c4, c5, c6, c8, c9⟩ := hB
  obtain ⟨s1, s2, s3, s4, s5, s6⟩ := c4.2.2 s ls
  obtain ⟨k15, k8, -⟩ := hW s ls
  have hkl : kd_ln h (sg_k h (σ s)) = ln := by
    rw [kd_ln, c_sgk c4 ls, ((c3.1 _ k8).2 (hK s ls)).2.2.2.2.2.1, eln]; exact nI_clamp (by omega)
  have rd : ∀ b i, b ≠ sg_w h (σ s) → zz_aI (t_tw h x (σ s)) b i = zz_aI h b i := fun b i hb => if_neg hb
  have rs : ∀ i, i < ln → zz_aI (t_tw h x (σ s)) (sg_w h (σ s)) i = zz_aI h (t_ww h x) i := fun i hi => by
    show (if sg_w h (σ s) = sg_w h (σ s) then (if i < kd_ln h (sg_k h (σ s)) then zz_aI h (t_ww h x) i else _) else _) = _
    rw [if_pos rfl, if_pos (by rw [hkl]; exact hi)]
  have hsw4 := (c4.1 _ _ s1).2.2.1
  refine ⟨c1, c2, c3, ⟨c4.1, c4.2.1, fun a la => ?_⟩, fun l hl => ?_, fun i hi => ?_, c8, c9⟩
  · obtain ⟨a1, a2, a3, a4, a5, a6⟩ := c4.2.2 a la
    refine ⟨a1, a2, a3, a4, a5, fun i hi hl => ?_⟩
    by_cases e : a = s
    · subst e
      have hil : i < ln := by
        have hl : nI i < A 4 (aK A a) := hl
        rw [eln] at hl
        exact nI_ltJ (by omega) (by omega) hl
      exact (rs i hil).trans ((c6 i hi).trans (aPw_in hil).symm)
    · have hne : σ a ≠ σ s := fun z => e (c_σinj c4 hN la ls z)
      refine (rd _ i (c2.2.2 _ _ _ _ a1 s1 hne)).trans ((a6 i hi hl).trans (aPw_out ?_).symm)
      omega
  · obtain ⟨p1, p2, p3⟩ := c5 l hl
    obtain ⟨-, -, -, -, t1, t2, t3⟩ := c1.2.1.2.2 l hl
    have ne : ∀ b, zz_tg h b = some (90, 3) → b ≠ sg_w h (σ s) := fun b hb z => by rw [z, hsw4] at hb; cases hb
    refine ⟨p1, p2, fun i hi => ?_⟩
    obtain ⟨q1, q2, q3⟩ := p3 i hi
    exact ⟨(rd _ i (ne _ t1)).trans q1, (rd _ i (ne _ t2)).trans q2, (rd _ i (ne _ t3)).trans q3⟩
  · exact (rd _ i (c2.2.1 _ _ s1).2.symm).trans (c6 i hi)
/-- two are twins -/
theorem CN_lk (hN : aNum A) (hB : CN h x m27 A f σ κ) {s b : Nat} (ls : aLive A s) (lb : aLive A b) (hne : s ≠ b) : CN (zz_pR (zz_pR h 2 4 (σ b) (some (σ s))) 2 4 (σ s) (some (σ b))) x m27 (aU (aU A 17 b (nI s)) 17 s (nI b)) f σ κ := by
  obtain ⟨c1, c2, c3, c4, c5, c6, c8, c9⟩ := hB
  have s60 := ls.1
  have b60 := lb.1
  have nσ : σ s ≠ σ b := fun z => hne (c_σinj c4 hN ls lb z)
  refine ⟨c1, c2, c3, ⟨c4.1, c4.2.1, fun a la => ?_⟩, c5, c6, c8, c9⟩
  have la : aLive A a := la
  obtain ⟨a1, a2, a3, a4, a5, a6⟩ := c4.2.2 a la
  refine ⟨a1, a2, a3, a4, ?_, a6⟩
  by_cases e1 : a = s
  · subst e1
    rw [zz_pR_a, aU_eq, oS_s b60 rfl]
  · have n1 : σ a ≠ σ s := fun z => e1 (c_σinj c4 hN la ls z)
    rw [zz_pR_n _ _ _ _ n1, aU_ne e1]
    by_cases e2 : a = b
    · subst e2
      rw [zz_pR_a, aU_eq, oS_s s60 rfl]
    · have n2 : σ a ≠ σ b := fun z => e2 (c_σinj c4 hN la lb z)
      rw [zz_pR_n _ _ _ _ n2, aU_ne e2]
      exact a5
end CN
/-! the reference: a segment is new -/
def aNw (A : aA) (s t : Nat) (pv nv ov : Int32) : aA := aU (aU (aU (aU A 14 s nv) 15 s (nI t)) 16 s pv) 17 s ov
section NW
variable {A : aA} {f : aF} {n sw t2 s t ln : Nat} {pv nv ov : Int32} {LB : List Nat}
theorem aNw_ne {i : Nat} (hi : i ≠ s) (j : Nat) : aNw A s t pv nv ov j i = A j i := by
  unfold aNw aU
  rw [if_neg (fun z => hi z.2), if_neg (fun z => hi z.2), if_neg (fun z => hi z.2), if_neg (fun z => hi z.2)]
theorem aNw_14 : aNw A s t pv nv ov 14 s = nv := aU_eq A 14 s nv
theorem aNw_15 : aNw A s t pv nv ov 15 s = nI t := aU_eq (aU A 14 s nv) 15 s (nI t)
theorem aNw_16 : aNw A s t pv nv ov 16 s = pv := aU_eq (aU (aU A 14 s nv) 15 s (nI t)) 16 s pv
theorem aNw_17 : aNw A s t pv nv ov 17 s = ov := aU_eq (aU (aU (aU A 14 s nv) 15 s (nI t)) 16 s pv) 17 s ov
/-- with its words -/
def aNx (A : aA) (s t : Nat) (pv nv : Int32) (ln : Nat) : aA := aPw (aNw A s t pv nv (-1)) s ln
theorem aNx_j {j : Nat} (hj : j ≠ 18) (i : Nat) : aNx A s t pv nv ln j i = aNw A s t pv nv (-1) j i := if_neg (fun z => hj z.1)
theorem aNx_ne {i : Nat} (hi : i ≠ s) {j : Nat} (hj : j ≠ 18) : aNx A s t pv nv ln j i = A j i := (aNx_j hj i).trans (aNw_ne hi j)
theorem aNx_18 {e i : Nat} (he : e ≠ s) (l4 : ln ≤ 4) (i4 : i < 4) : aNx A s t pv nv ln 18 (4 * e + i) = A 18 (4 * e + i) := aPw_out (A := aNw A s t pv nv (-1)) (by omega)
theorem aNx_live {e : Nat} (s60 : s < 60) (hnv : 0 < nv) (ns : ¬ aLive A s) : aLive (aNx A s t pv nv ln) e ↔ e = s ∨ aLive A e := by
  unfold aLive
  rw [aNx_j (by decide)]
  by_cases e1 : e = s
  · rw [e1, aNw_14]; exact ⟨fun _ => Or.inl rfl, fun _ => ⟨s60, hnv⟩⟩
  · rw [aNw_ne e1]; exact ⟨fun z => Or.inr z, fun z => z.resolve_left e1⟩
/-- where the new one hangs -/
def aHg (A : aA) (t : Nat) (pv : Int32) : Prop := (pv = -1 ∧ A 2 t = -1) ∨ ∃ p, aLive A p ∧ pv = nI p ∧ A 15 p = A 2 t
theorem aNx_K (t8 : t < 8) : aK (aNx A s t pv nv ln) s = t := by
  rw [aK, aNx_j (by decide), aNw_15]; exact nI_clamp (by omega)
theorem aNx_Ke {e : Nat} (he : e ≠ s) : aK (aNx A s t pv nv ln) e = aK A e := by rw [aK, aK, aNx_ne he (by decide)]
theorem aNx_T (k : Nat) : aT (aNx A s t pv nv ln) k = aT A k := rfl
theorem aNx_Lv (t8 : t < 8) : aLv (aNx A s t pv nv ln) s = aT A t := by rw [aLv, aNx_K t8]; rfl
theorem aNx_Lve {e : Nat} (he : e ≠ s) : aLv (aNx A s t pv nv ln) e = aLv A e := by rw [aLv, aNx_Ke he]; rfl
theorem aNx_wl (hM : aM A f n sw t2) (s60 : s < 60) (hnv : 0 < nv) (ns : ¬ aLive A s) (t8 : t < 8) (dt : A 1 t ≠ 0) (hg : aHg A t pv) : aWl (aNx A s t pv nv ln) := fun e le => by
  have lv := fun e => aNx_live (A := A) (t := t) (pv := pv) (ln := ln) (e := e) s60 hnv ns
  rcases (lv e).mp le with rfl | le0
  · rw [aNx_K t8, aNx_Lv t8, aNx_j (by decide), aNw_15]
    obtain ⟨q1, q2, q3, q4, -⟩ := hM.2.1 t t8 dt
    refine ⟨rfl, t8, q1, q2, q3, ?_⟩
    rw [aNx_j (by decide), aNw_16]
    rcases hg with ⟨g1, g2⟩ | ⟨p, lp, g1, g2⟩
    · rcases q4 with ⟨w1, w2⟩ | ⟨p, p8, dp, w1, w2⟩
      · exact Or.inl ⟨g1, w2⟩
      · exact absurd (w1.symm.trans g2) (nI_neg (by omega))
    · have np : p ≠ e := fun z => ns (z ▸ lp)
      obtain ⟨p15, p8, -⟩ := hM.1 p lp
      rcases q4 with ⟨w1, w2⟩ | ⟨q, q8, dq, w1, w2⟩
      · exact absurd (p15.symm.trans (g2.trans w1)) (nI_neg (by omega))
      · have : aK A p = q := nI_eqI9 (by omega) (by omega) (p15.symm.trans (g2.trans w1))
        refine Or.inr ⟨p, (lv p).mpr (Or.inr lp), g1, ?_⟩
        rw [aNx_Lve np, aLv, this]; exact w2
  · have ne : e ≠ s := fun z => ns (z ▸ le0)
    obtain ⟨q1, q2, q3, q4, q5, q6⟩ := hM.1 e le0
    rw [aNx_Ke ne, aNx_Lve ne, aNx_ne ne (by decide), aNx_ne ne (by decide)]
    refine ⟨q1, q2, q3, q4, q5, q6.imp id (fun ⟨p, lp, w1, w2⟩ => ⟨p, (lv p).mpr (Or.inr lp), w1, ?_⟩)⟩
    have np : p ≠ s := fun z => ns (by rw [← z]; exact lp)
    rw [aNx_Lve np]; exact w2
theorem aM_new (hM : aM A f n sw t2) (hn : n < 512) (s60 : s < 60) (ns : ¬ aLive A s) (t8 : t < 8) (dt : A 1 t ≠ 0) (hg : aHg A t pv) (env : nv = f 12 + 1) (l4 : ln ≤ 4) (hL : LB.Nodup) (hLm : ∀ e, e ∈ LB ↔ aLive A e) : aM (aNx A s t pv nv ln) (qU (qU (qU (qU (qU f 30 (-1)) 12 nv) 13 (f 13 + 1)) 28 1) 29 (nI s)) (n + 1) sw t2 ∧ 0 < nv := by
  obtain ⟨k, k1, k2, k3⟩ := hM.2.2.2.2.2.2.1
  have env2 : nv = nI (k + 1) := by rw [env, k2]; exact (nI_succ k).symm
  have hnv : 0 < nv := by rw [env2]; exact nI_lt (a := 0) (by omega) (by omega)
  have lv := fun e => aNx_live (A := A) (t := t) (pv := pv) (ln := ln) (e := e) s60 hnv ns
  have hwl := aNx_wl (ln := ln) hM s60 hnv ns t8 dt hg
  obtain ⟨m1, m2, m3, m4, m5, m6, m7, m8, m9, m10, m11, m12, m13, m14⟩ := hM
  have nsl : ∀ e, aLive A e → e ≠ s := fun e le z => ns (z ▸ le)
  refine ⟨⟨hwl, m2, fun e le => ?_, m4, fun a b la lb hab => ?_, ?_, ⟨k + 1, by omega, ?_, fun e le => ?_⟩, m8, m9, m10, fun e le => ?_, Or.inl rfl, ?_, fun e le => ?_⟩, hnv⟩
  · rcases (lv e).mp le with rfl | le0
    · rw [aNx_K t8]; exact dt
    · rw [aNx_Ke (nsl e le0)]; exact m3 e le0
  · rw [aNx_j (by decide), aNx_j (by decide)] at hab
    rcases (lv a).mp la with ea | la0
    · rcases (lv b).mp lb with eb | lb0
      · rw [ea, eb]
      · rw [ea, aNw_14, aNw_ne (nsl b lb0)] at hab
        obtain ⟨j, j1, j2⟩ := k3 b lb0
        rw [j2, env2] at hab
        have := nI_eqI9 (by omega) (by omega) hab
        omega
    · rcases (lv b).mp lb with eb | lb0
      · rw [eb, aNw_14, aNw_ne (nsl a la0)] at hab
        obtain ⟨j, j1, j2⟩ := k3 a la0
        rw [j2, env2] at hab
        have := nI_eqI9 (by omega) (by omega) hab
        omega
      · rw [aNw_ne (nsl a la0), aNw_ne (nsl b lb0)] at hab
        exact m5 a b la0 lb0 hab
  · have e1 : LB.length = mCnt (aLive A) 60 := mCnt_len 60 LB hL (fun e => ⟨fun z => ⟨((hLm e).mp z).1, (hLm e).mp z⟩, fun z => (hLm e).mpr z.2⟩)
    have e2 : (s :: LB).length = mCnt (aLive (aNx A s t pv nv ln)) 60 := mCnt_len 60 (s :: LB) (List.nodup_cons.mpr ⟨fun z => ns ((hLm s).mp z), hL⟩) (fun e => by
      rw [List.mem_cons, lv e, hLm e]
      exact ⟨fun z => ⟨z.elim (fun q => q ▸ s60) (fun q => q.1), z⟩, fun z => z.2⟩)
    show f 13 + 1 = nI (mCnt (aLive (aNx A s t pv nv ln)) 60)
    rw [← e2, List.length_cons, e1, m6]; exact (nI_succ _).symm
  · exact env2
  · rw [aNx_j (by decide)]
    rcases (lv e).mp le with rfl | le0
    · exact ⟨k + 1, by omega, by rw [aNw_14]; exact env2⟩
    · obtain ⟨j, j1, j2⟩ := k3 e le0
      exact ⟨j, by omega, by rw [aNw_ne (nsl e le0)]; exact j2⟩
  · rcases (lv e).mp le with rfl | le0
    · exact Or.inl (by rw [aNx_j (by decide)]; exact aNw_17)
    · have ne := nsl e le0
      rw [aNx_ne ne (by decide), aNx_Ke ne]
      refine (m11 e le0).imp id (fun ⟨b, lb, w1, w2, w3, w4⟩ => ⟨b, (lv b).mpr (Or.inr lb), w1, ?_, ?_, fun i hi i4 => ?_⟩)
      · rw [aNx_ne (nsl b lb) (by decide)]; exact w2
      · rw [aNx_Ke (nsl b lb)]; exact w3
      · rw [aNx_18 ne l4 i4, aNx_18 (nsl b lb) l4 i4]; exact w4 i hi i4
  · exact m13.imp id (fun ⟨b, lb, w⟩ => ⟨b, (lv b).mpr (Or.inr lb), w⟩)
  · rcases (lv e).mp le with rfl | le0
    · rw [aNx_K t8, aNx_j (j := 16) (by decide), aNw_16]
      rcases hg with ⟨g1, g2⟩ | ⟨p, lp, g1, g2⟩
      · exact ⟨fun _ => g2, fun p lp z => absurd (z.symm.trans g1) (nI_neg (by have := lp.1; omega))⟩
      · refine ⟨fun z => absurd (g1.symm.trans z) (nI_neg (by have := lp.1; omega)), fun q lq z => ?_⟩
        have : p = q := nI_eqI9 (by have := lp.1; omega) (by have := lq.1; omega) (g1.symm.trans z)
        subst this
        rw [aNx_ne (nsl p lp) (by decide)]; exact g2.symm
    · have ne := nsl e le0
      rw [aNx_Ke ne, aNx_ne ne (by decide)]
      refine ⟨(m14 e le0).1, fun p lp z => ?_⟩
      rcases (lv p).mp lp with rfl | lp0
      · rcases (m1 e le0).2.2.2.2.2 with ⟨w, -⟩ | ⟨q, lq, w, -⟩
        · exact absurd (z.symm.trans w) (nI_neg (by omega))
        · have : p = q := nI_eqI9 (by omega) (by have := lq.1; omega) (z.symm.trans w)
          exact absurd (this ▸ lq) ns
      · rw [aNx_ne (nsl p lp0) (by decide)]; exact (m14 e le0).2 p lp0 z
/-- it joins its twin -/
theorem aM_lk (hM : aM A f n sw t2) {b : Nat} (ls : aLive A s) (lb : aLive A b) (hne : s ≠ b) (l4 : ln ≤ 4) (e4 : A 4 (aK A s) = nI ln) (e4b : A 4 (aK A b) = nI ln) (e8 : A 8 (aK A s) = nI (aK A b)) (e8b : A 8 (aK A b) = nI (aK A s)) (fs : A 17 s = -1) (fb : A 17 b = -1) (hw : ∀ i, i < ln → A 18 (4 * s + i) = A 27 i) : aM (aU (aU (aPw A b ln) 17 b (nI s)) 17 s (nI b)) f n sw t2 := by
  obtain ⟨m1, m2, m3, m4, m5, m6, m7, m8, m9, m10, m11, m12, m13⟩ := hM
  have s60 := ls.1
  have b60 := lb.1
  refine ⟨m1, m2, m3, m4, m5, m6, m7, m8, m9, m10, fun e le => ?_, m12, m13⟩
  have le : aLive A e := le
  have e60 := le.1
  have h17 : ∀ i, i ≠ s → i ≠ b → aU (aU (aPw A b ln) 17 b (nI s)) 17 s (nI b) 17 i = A 17 i := fun i h1 h2 => by rw [aU_ne h1, aU_ne h2]; rfl
  have hs17 : aU (aU (aPw A b ln) 17 b (nI s)) 17 s (nI b) 17 s = nI b := aU_eq _ _ _ _
  have hb17 : aU (aU (aPw A b ln) 17 b (nI s)) 17 s (nI b) 17 b = nI s := by rw [aU_ne hne.symm]; exact aU_eq _ _ _ _
  have in1 : ∀ i, i < ln → aPw A b ln 18 (4 * s + i) = A 27 i := fun i hi => by rw [aPw_out (by omega)]; exact hw i hi
  by_cases e1 : e = s
  · subst e1
    refine Or.inr ⟨b, lb, hs17, hb17, e8, fun i hi i4 => ?_⟩
    have hi' : nI i < A 4 (aK A e) := hi
    rw [e4] at hi'
    have hl := nI_ltJ (by omega) (by omega) hi'
    exact (in1 i hl).trans (aPw_in hl).symm
  · by_cases e2 : e = b
    · subst e2
      refine Or.inr ⟨s, ls, hb17, hs17, e8b, fun i hi i4 => ?_⟩
      have hi' : nI i < A 4 (aK A e) := hi
      rw [e4b] at hi'
      have hl := nI_ltJ (by omega) (by omega) hi'
      exact (aPw_in hl).trans (in1 i hl).symm
    · rw [h17 e e1 e2]
      refine (m11 e le).imp id (fun ⟨d, ld, w1, w2, w3, w4⟩ => ?_)
      have d60 := ld.1
      have d1 : d ≠ s := fun z => by rw [z, fs] at w2; exact nI_neg (by omega) w2.symm
      have d2 : d ≠ b := fun z => by rw [z, fb] at w2; exact nI_neg (by omega) w2.symm
      refine ⟨d, ld, w1, (h17 d d1 d2).trans w2, w3, fun i hi i4 => ?_⟩
      have w9 := w4 i hi i4
      show aPw A b ln 18 (4 * e + i) = aPw A b ln 18 (4 * d + i)
      rw [aPw_out (by omega), aPw_out (by omega)]; exact w9
end NW
/-! delete: both sides -/
section DM
variable {h g k H : zz_H} {x n r : Nat} {A : aA} {f : aF} {σ κ : Nat → Nat} {LB LN : List Nat} {sw t2 : Nat}
theorem gR_rx {g' : zz_H} (hg : gR g g' r A f) {xx : Nat → Nat → Int32} {A' : aA} (hx : ∀ b, (∀ j, mo_sz j ≠ none → mf g r j ≠ b) → xx b = zz_aI g' b) (hA : mA (mo_rx g' xx) r = A') : gR g (mo_rx g' xx) r A' f := ⟨hg.1, hA, hg.2.2.1, hg.2.2.2.1, hg.2.2.2.2.1, fun b hn => (hx b hn).trans (hg.2.2.2.2.2.1 b hn), hg.2.2.2.2.2.2⟩
theorem rm_w {w : Nat → Nat → Nat → Option Nat} (hw : or_tf H w) : ∃ w4 : Nat → Option Nat, w = fun c j b => if c = 2 ∧ j = 4 then w4 b else zz_fR H c j b := ⟨w 2 4, by
    funext c j b
    by_cases e : c = 2 ∧ j = 4
    · rw [if_pos e, e.1, e.2]
    · rw [if_neg e]; exact hw c j b e⟩
theorem rm_od {w : Nat → Nat → Nat → Option Nat} (hw : or_tf H w) (d q : Nat) (xx : Nat → Nat → Option Nat) : t_od (or_rm H d q w xx) x = t_od H x := by
  obtain ⟨w4, rfl⟩ := rm_w hw
  rfl
theorem rm_ps {w : Nat → Nat → Nat → Option Nat} (hw : or_tf H w) (d q : Nat) (xx : Nat → Nat → Option Nat) : t_ps (or_rm H d q w xx) x = t_ps H x := by
  obtain ⟨w4, rfl⟩ := rm_w hw
  rfl
theorem cR_rm {w : Nat → Nat → Nat → Option Nat} (hw : or_tf H w) (hc : cR h H r) (d q : Nat) (xx : Nat → Nat → Option Nat) : cR h (or_rm H d q w xx) r := by
  obtain ⟨w4, rfl⟩ := rm_w hw
  exact hc
def qD (f : aF) (fr N ln w : Nat) (v : Int32) : aF := qU (qU (qU (qU (qU f 30 (-1)) 28 (if fr + N < ln then 2 else 3)) 29 (if fr + N < ln then nI w else -1)) 31 v) 13 (nI ln - nI N)
set_option maxHeartbeats 4000000 in
theorem mm_del {post : Option zz_V → zz_H → Prop} {gs : Option Nat} (hM : aM (mA h r) (mQ h r) n sw t2) (ho : c_or h x (mA h r) (mQ h r) σ LB LN sw t2) (hc : cR h g r) (eg : mQ h r 30 = mO gs) (hl : ∀ s, gs = some s → aLive (mA h r) s) (q0 : gs = none → post (some (zz_i 0)) (zz_pI (mo_bg g r) 7 0 r 1)) (q1 : ∀ top, gs = some top → ∀ fr, LN[fr]? = some top → (∃ vv, PV (mA h r) (mQ h r) sw vv) → ∀ p q v fin, dP (mA h r) top p → dQ (mA h r) top q → dV (mA h r) top (mQ h r 31) v → gR g fin r (aD (mA h r) p q) (qD (mQ h r) fr (mCnt (aG (mA h r) top) 60) LN.length (LN.getD (fr + mCnt (aG (mA h r) top) 60) 0) v) → zz_fI fin 7 0 r = 0 → post (some (zz_i (nI (mCnt (aG (mA h r) top) 60)))) fin) : T_M_delete [zz_r 7 (some r)] g post := by
  have e30 : zz_fI g 7 30 r = mO gs := (congrArg (fun q => q 30) hc.2.2.2.1).trans eg
  have hMg : aM (mA g r) (mQ g r) n sw t2 := by rw [hc.2.2.1, hc.2.2.2.1]; exact hM
  refine ⟨r, gs, sw, t2, rfl, c_W (n := n) hc.1 hc.2.1 hMg, e30, q0, fun top ht => ⟨?_, ?_, fun y Ls xx hS => ?_⟩⟩
  · have := hl top ht
    rw [← hc.2.2.1] at this
    exact this
  · intro s ls
    exact (hMg.2.2.2.2.2.2.2.2.2.2.1 s ls).imp id (fun ⟨b, lb, w1, w2, _⟩ => ⟨b, lb, w1, w2⟩)
  · have lt := hl top ht
    have eA : mA (mo_bg g r) r = mA h r := hc.2.2.1
    have eQ : mQ (mo_bg g r) r = qU (mQ h r) 30 (-1) := by rw [mQ_bg, hc.2.2.2.1]
    have hLs : Ls = LN := c_srt (g := mo_bg g r) (n := n) (by rw [eA, eQ]; exact aM_h0 hM) (by rw [eA]; exact ho.2.2.2.2.2.1) (by rw [eA, eQ]; exact ho.2.2.2.2.2.2.2) hS
    subst hLs
    have hPV := mVl_PV (h := mo_bg g r) hS.1
    rw [eA, eQ] at hPV
    have hPV : PV (mA h r) (mQ h r) sw (y (mf (mo_bg g r) r 20)) := hPV
    have hnd : Ls.Nodup := pw_nodup (fun a => fo_R_irr a) (ho.2.2.2.2.2.2.2 _ hPV)
    have h60 : Ls.length ≤ 60 := by rw [ho.2.1]; exact (c_len ho).2
    have hl9 : ∀ e ∈ Ls, e < 60 := fun e he => ((ho.2.2.2.2.2.1 e).mp he).1
    obtain ⟨fr, hfr⟩ := List.getElem?_of_mem ((ho.2.2.2.2.2.1 top).mpr lt)
    have hg : gR g (mo_so (mo_bg g r) y xx) r (mA h r) (qU (mQ h r) 30 (-1)) := gR_so (gR_bg (gR_of hc)) hS.2.2.2 hS.1.1
    have h0 : zz_fI (mo_so (mo_bg g r) y xx) 7 0 r = 0 := zz_pI_a _ _ _ _ _
    have hX := hS.2.2.1
    refine ⟨fr, c_ix (g := mo_bg g r) (y := y) hnd h60 hl9 hX hfr, fun x9 v hdi => ?_⟩
    have r19 : ∀ i e, Ls[i]? = some e → ma (mo_so (mo_bg g r) y xx) r 19 i = nI e := fun i e he => by
      have := hX i e he
      rw [Nat.zero_add] at this
      exact this
    have hap : mo_ap (mo_so (mo_bg g r) y xx) r := gF_ap hg.2.2.2 hg.1.2
    generalize mo_so (mo_bg g r) y xx = k at hg h0 hdi r19 hap ⊢
    have eA2 : ∀ j i, mA k r j i = mA h r j i := fun j i => congrArg (fun z => z j i) hg.2.1
    have hG : ∀ s, mG k r top s ↔ aG (mA h r) top s := fun s => by
      have w1 : aWl (mA k r) := by rw [hg.2.1]; exact hM.1
      constructor
      · rintro ⟨ls, z⟩
        have ls : aLive (mA k r) s := ls
        have ls' := ls
        rw [hg.2.1] at ls'
        refine ⟨ls', ?_⟩
        rcases z with z | z
        · rw [z]; exact fo_in_rf _ _
        · have := ((mBo_a w1 (by rw [hg.2.1]; exact lt) ls).mp z).1
          rw [hg.2.1] at this
          exact this
      · rintro ⟨ls, z⟩
        have ls' : aLive (mA k r) s := by rw [hg.2.1]; exact ls
        refine ⟨ls', ?_⟩
        by_cases e : s = top
        · exact Or.inl e
        · exact Or.inr ((mBo_a w1 (by rw [hg.2.1]; exact lt) ls').mpr ⟨by rw [hg.2.1]; exact z, e⟩)
    have eN : mCnt (mG k r top) 60 = mCnt (aG (mA h r) top) 60 := mCnt_eq 60 (fun i _ => hG i)
    rw [eN]
    obtain ⟨d1, d2, d3, d4, d5, d6⟩ := hdi
    have e17 : ∀ s, ma k r 17 s = mA h r 17 s := fun s => eA2 17 s
    have e14 : ∀ s, ma k r 14 s = mA h r 14 s := fun s => eA2 14 s
    have e31 : zz_fI k 7 31 r = mQ h r 31 := congrArg (fun q => q 31) hg.2.2.1
    have hex : ∀ b, (∃ s, s < 60 ∧ mG k r top s ∧ ma k r 17 s = nI b) ↔ ∃ s, aG (mA h r) top s ∧ mA h r 17 s = nI b := fun b => by
      constructor
      · rintro ⟨s, -, z1, z2⟩; exact ⟨s, (hG s).mp z1, (e17 s).symm.trans z2⟩
      · rintro ⟨s, z1, z2⟩; exact ⟨s, z1.1.1, (hG s).mpr z1, (e17 s).trans z2⟩
    have hP : dP (mA h r) top (x9 (mf k r 14)) := fun s hs => by
      rcases d3 s hs with ⟨-, z1, z2⟩ | ⟨z1, z2⟩
      · exact Or.inl ⟨(hG s).mp z1, z2⟩
      · exact Or.inr ⟨fun z => z1 ⟨hs, (hG s).mpr z⟩, z2.trans (e14 s)⟩
    have hQ : dQ (mA h r) top (x9 (mf k r 17)) := fun b hb ng => by
      rcases d4 b hb (fun z => ng ((hG b).mp z)) with ⟨z1, z2⟩ | ⟨z1, z2⟩
      · exact Or.inl ⟨(hex b).mp z1, z2⟩
      · exact Or.inr ⟨fun z => z1 ((hex b).mpr z), z2.trans (e17 b)⟩
    have hV : dV (mA h r) top (mQ h r 31) v := by
      rw [e31] at d6
      rcases d6 with ⟨z1, s, z2, z3, z4⟩ | ⟨z1, z2⟩
      · exact Or.inl ⟨z1, s, (hG s).mp z3, z4⟩
      · exact Or.inr ⟨z1, fun ⟨s, z3, z4⟩ => z2 ⟨s, z3.1.1, (hG s).mpr z3, z4⟩⟩
    have hA9 : mA (mo_rx (zz_pI (zz_pI (zz_pI k 7 28 r (if fr + mCnt (aG (mA h r) top) 60 < Ls.length then 2 else 3)) 7 29 r (if fr + mCnt (aG (mA h r) top) 60 < Ls.length then nI (Ls.getD (fr + mCnt (aG (mA h r) top) 60) 0) else -1)) 7 31 r v) x9) r = aD (mA h r) (x9 (mf k r 14)) (x9 (mf k r 17)) := by
      funext j i
      show (if mS j = true then x9 (mf k r j) i else 0) = (if j = 14 then x9 (mf k r 14) i else if j = 17 then x9 (mf k r 17) i else mA h r j i)
      by_cases j1 : j = 14
      · subst j1; rfl
      · by_cases j2 : j = 17
        · subst j2; rfl
        · rw [if_neg j1, if_neg j2]
          by_cases e3 : mS j = true
          · obtain ⟨s1, s2, s3, s4⟩ := mS_sz e3
            rw [if_pos e3, d1 _ (hap j 14 s1 (by decide) j1) (hap j 17 s1 (by decide) j2) (hap j 21 s1 (by decide) s4) i]
            have := eA2 j i
            unfold mA at this
            rw [if_pos e3] at this
            exact this
          · rw [if_neg e3]
            exact (if_neg e3).symm
    have hgf := gR_p (gR_rx (gR_p (gR_p (gR_p hg (j := 28) (by decide) (if fr + mCnt (aG (mA h r) top) 60 < Ls.length then 2 else 3)) (j := 29) (by decide) (if fr + mCnt (aG (mA h r) top) 60 < Ls.length then nI (Ls.getD (fr + mCnt (aG (mA h r) top) 60) 0) else -1)) (j := 31) (by decide) v) (fun b hn => by
      funext i
      have hn' : ∀ j, mo_sz j ≠ none → b ≠ mf k r j := fun j hj z => hn j hj (by rw [z, gF_mf hg.2.2.2])
      exact d1 b (hn' 14 (by decide)) (hn' 17 (by decide)) (hn' 21 (by decide)) i) hA9) (j := 13) (by decide) (nI Ls.length - nI (mCnt (aG (mA h r) top) 60))
    have e19 : (if fr + mCnt (aG (mA h r) top) 60 < Ls.length then ma k r 19 (fr + mCnt (aG (mA h r) top) 60) else -1) = (if fr + mCnt (aG (mA h r) top) 60 < Ls.length then nI (Ls.getD (fr + mCnt (aG (mA h r) top) 60) 0) else -1) := by
      by_cases hc9 : fr + mCnt (aG (mA h r) top) 60 < Ls.length
      · have h9 : Ls[fr + mCnt (aG (mA h r) top) 60]? = some Ls[fr + mCnt (aG (mA h r) top) 60] := List.getElem?_eq_getElem hc9
        rw [if_pos hc9, if_pos hc9, r19 _ _ h9, getD_at h9]
      · rw [if_neg hc9, if_neg hc9]
    unfold mo_df mo_dh
    rw [e19]
    exact q1 top ht fr hfr ⟨_, hPV⟩ _ _ v _ hP hQ hV hgf h0
end DM
set_option maxHeartbeats 8000000 in
theorem ok_delete : st_delete Rel := fun n h x r u hn hR _ => by
  obtain ⟨hok, hap, hu, σ, κ, LB, LN, sw, t2, hM, hC⟩ := hR
  have hC0 := CA_h0 hC
  have hM0 := aM_h0 hM
  have c00 : cR h h r := cR_rf hok hap
  have c0 : cR h (t_h0 h x) r := c00
  have hwf := CA_twf hM hC
  have okB := c_okB hC.1 hC.2.2.2.2.2.2.1
  have osw := CA_sw hM hC
  have osy := CA_sy hM hC
  have ho := hC.2.2.2.2.2.2.1
  have e05 := hC.2.2.2.2.2.2.2.2.2.2.2.2.1
  rcases hM.2.2.2.2.2.2.2.2.2.2.2.1 with z30 | ⟨top, lt, z30⟩
  · have en : zz_fR h 0 5 x = none := e05.trans (oS_n z30)
    exact ⟨_, ⟨x, u, rfl, Or.inr ⟨x, rfl, hwf, okB, osw, osy, fun _ => ⟨rfl, 1, rfl, _, mm_del (gs := none) hM ho c0 z30 (fun s z => by cases z) (fun _ => ⟨0, rfl, zz_pI_a _ _ _ _ _, fun z => absurd z (by decide), Rel_of (gR_p0 (gR_bg (gR_of c0)) 1) hu (aM_up hM0) hC0⟩) (fun s z => by cases z), fun _ _ z => z⟩, fun g f r z => (by rw [en] at z; cases z)⟩⟩, fun _ _ z => z⟩
  · have en : zz_fR h 0 5 x = some (σ top) := e05.trans (oS_s lt.1 z30)
    refine ⟨_, ⟨x, u, rfl, Or.inl ⟨x, rfl, hwf, okB, osw, osy, fun z => (by rw [en] at z; cases z), fun g f0 rC hg hf1 hf2 hf3 hor w xx h2 hw hJ hX harr => ?_⟩⟩, fun _ _ z => z⟩
    rw [en] at hg
    cases hg
    have hnd : LB.Nodup := pw_nodup (fun a => fo_R_irr a) ho.2.2.2.2.2.2.1
    have hsz := c_size ho
    obtain ⟨v0, hv0⟩ := dV_ex (mA h r) top (mQ h r 31)
    obtain ⟨-, hde⟩ := CN_de hM (CB_CN (CA_CB hC)) lt hv0
    have eod : t_od (de_h h x (σ top)) x = t_od h x := by rcases hde with e | e <;> rw [e] <;> rfl
    have eps : t_ps (de_h h x (σ top)) x = t_ps h x := by rcases hde with e | e <;> rw [e] <;> rfl
    have eaR : zz_aR (de_h h x (σ top)) = zz_aR h := by rcases hde with e | e <;> rw [e] <;> rfl
    have efI : zz_fI (de_h h x (σ top)) = zz_fI h := by rcases hde with e | e <;> rw [e] <;> rfl
    have etg : zz_tg (de_h h x (σ top)) = zz_tg h := by rcases hde with e | e <;> rw [e] <;> rfl
    have eob : or_b (de_h h x (σ top)) (t_od h x) = or_b h (t_od h x) := by rcases hde with e | e <;> rw [e] <;> rfl
    have cH : cR h (de_h h x (σ top)) r := by
      rcases hde with e | e
      · rw [e]; exact c00
      · rw [e]; exact c00
    have hCN := fun v hv => (CN_de (v := v) hM (CB_CN (CA_CB hC)) lt hv).1
    generalize de_h h x (σ top) = H at hw hJ hX harr eod eps eaR efI etg eob cH hCN
    rw [← eod] at hJ hX harr
    have arr : ∀ p q v, dP (mA h r) top p → dQ (mA h r) top q → dV (mA h r) top (mQ h r 31) v → ((or_kl H (t_od H x) (σ top) (or_s H (t_od H x))).length = (pf (fun e => ¬ aIn (mA h r) top e) LB).length ∧ or_s H (t_od H x) = LB.length) ∧ or_fr (or_rm H (t_od H x) (or_kl H (t_od H x) (σ top) (or_s H (t_od H x))).length w xx) h2 (or_n (or_rm H (t_od H x) (or_kl H (t_od H x) (σ top) (or_s H (t_od H x))).length w xx) (t_od H x)) ∧ ∃ LN', CE h2 x (mf h r 27) (aD (mA h r) p q) (qU (qU (qU (mQ h r) 30 (-1)) 31 v) 13 (nI LB.length - nI (mCnt (aG (mA h r) top) 60))) σ κ (pf (fun e => ¬ aIn (mA h r) top e) LB) LN' sw t2 := fun p q v hp hq hv => by
      have hM2 := aM_del hM hp hq hv hnd ho.2.2.2.2.1
      have hCN1 : CN H x (mf h r 27) (mA h r) (qU (qU (qU (mQ h r) 30 (-1)) 31 v) 13 (nI LB.length - nI (mCnt (aG (mA h r) top) 60))) σ κ := hCN v hv
      obtain ⟨k1, k2, k3⟩ := CD_rm (LB := LB) hM ⟨hM2.1, hM2.2.2.2.2.1⟩ hCN1 lt hp hq (by rw [eod, efI]; exact ho.1) (fun i e hi => by rw [eod, eaR, eob]; exact ho.2.2.1 i e hi) ho.2.2.2.2.1 ho.2.2.2.2.2.2.1 hw hJ hX
      have e9 := rm_od (x := x) hw (t_od H x) (or_kl H (t_od H x) (σ top) (or_s H (t_od H x))).length xx
      have := CD_arr hM2 k3 (by rw [e9]; exact harr)
      rw [e9] at this
      exact ⟨⟨k1, k2⟩, this⟩
    obtain ⟨p0, hp0⟩ := dP_ex (mA h r) top
    obtain ⟨q0, hq0⟩ := dQ_ex (mA h r) top
    obtain ⟨⟨k1, k2⟩, hfr, -⟩ := arr p0 q0 v0 hp0 hq0 hv0
    obtain ⟨n1, n2, n3⟩ := aD_cnt (q := q0) hp0 hnd ho.2.2.2.2.1
    have eans : or_s H (t_od h x) - (or_kl H (t_od h x) (σ top) (or_s H (t_od h x))).length = mCnt (aG (mA h r) top) 60 := by rw [← eod, k1, k2]; omega
    have c2 := cR_fr (cR_rm hw cH _ _ _) hfr
    have hu2 : zz_tg h2 u = some (92, 1) := by
      rw [fr_tg hfr]
      show zz_tg H u = _
      rw [etg]; exact hu
    have eps2 : t_ps h2 x = t_ps h x := (fr_ps (x := x) hfr).trans ((rm_ps hw _ _ _).trans eps)
    have c3 : cR h (zz_pI (zz_pI (zz_pR h2 6 0 (t_ps h x) rC) 6 1 (t_ps h x) 0) 6 2 (t_ps h x) (zz_b (rC = none))) r := c2
    have hu3 : zz_tg (zz_pI (zz_pI (zz_pR h2 6 0 (t_ps h x) rC) 6 1 (t_ps h x) 0) 6 2 (t_ps h x) (zz_b (rC = none))) u = some (92, 1) := hu2
    rw [eans]
    refine ⟨nI (mCnt (aG (mA h r) top) 60), rfl, hu3, 0, rfl, _, mm_del (gs := some top) hM ho (cR_sL c3 u 0 (nI (mCnt (aG (mA h r) top) 60)).toInt64) z30 (fun s z => by cases z; exact lt) (fun z => by cases z) (fun top' z fr hfr9 hpv p q v fin hp hq hv hgf h0 => ?_), fun _ _ z => z⟩
    cases z
    obtain ⟨vv, hvv⟩ := hpv
    have hsb := s1_sb (f := mQ h r) (t2 := t2) (v := vv) hM.2.2.2.2.1
    have hpw := ho.2.2.2.2.2.2.2 vv hvv
    have hndN : LN.Nodup := pw_nodup (fun a => fo_R_irr a) hpw
    obtain ⟨t1, t3, t4⟩ := tree_at hM.1 hsb lt ho.2.2.2.2.2.1 hpw hfr9
    have hll := ho.2.1
    have frl := (List.getElem?_eq_some_iff.mp hfr9).1
    have ef : f0 = fr := by
      rcases Nat.lt_trichotomy f0 fr with h9 | h9 | h9
      · exfalso
        have z1 := hf3 (by omega)
        have h8 : LN[f0]? = some LN[f0] := List.getElem?_eq_getElem (by omega)
        rw [ho.2.2.2.1 f0 _ h8] at z1
        have := c_σinj hC.2.2.2.1 hM.2.2.2.2.1 ((ho.2.2.2.2.2.1 _).mp (List.mem_of_getElem? h8)) lt (Option.some.inj z1)
        have := nd_idx hndN h8 (this ▸ hfr9)
        omega
      · exact h9
      · exact absurd (ho.2.2.2.1 fr top hfr9) (hf2 fr h9)
    subst ef
    have hin : ∀ i e, LN[i]? = some e → (¬ sg_at h (sg_lv h (σ top)) (or_N h (t_od h x) i) = some (σ top) ↔ ¬ aIn (mA h r) top e) := fun i e hi => by
      rw [c_N ho hi, c_in hC.2.2.1 hC.2.2.2.1 hM.1 hM.2.2.1 hM.2.2.2.2.1 lt ((ho.2.2.2.2.2.1 e).mp (List.mem_of_getElem? hi))]
    obtain ⟨-, hfr2, LN', hE⟩ := arr p q v hp hq hv
    have hM2 := aM_del hM hp hq hv hnd ho.2.2.2.2.1
    have hM3 : aM (aD (mA h r) p q) (qD (mQ h r) f0 (mCnt (aG (mA h r) top) 60) LN.length (LN.getD (f0 + mCnt (aG (mA h r) top) 60) 0) v) n sw t2 := by
      rw [← hll] at hM2; exact hM2
    have hrC : (f0 + mCnt (aG (mA h r) top) 60 < LN.length ∧ rC = some (σ (LN.getD (f0 + mCnt (aG (mA h r) top) 60) 0)) ∧ aLive (aD (mA h r) p q) (LN.getD (f0 + mCnt (aG (mA h r) top) 60) 0)) ∨ (¬ f0 + mCnt (aG (mA h r) top) 60 < LN.length ∧ rC = none) := by
      by_cases hc9 : f0 + mCnt (aG (mA h r) top) 60 < LN.length
      · left
        have h9 : LN[f0 + mCnt (aG (mA h r) top) 60]? = some LN[f0 + mCnt (aG (mA h r) top) 60] := List.getElem?_eq_getElem hc9
        have l9 := (ho.2.2.2.2.2.1 _).mp (List.mem_of_getElem? h9)
        have ni := t4 _ h9
        rw [getD_at h9]
        refine ⟨hc9, ?_, (aD_live hp).mpr ⟨l9, ni⟩⟩
        rcases hor with ⟨-, z⟩ | ⟨i, i1, i2, i3, i4, z⟩
        · exact absurd ((hin _ _ h9).mpr ni) (z _ (by omega) (by omega))
        · have ei : i = f0 + mCnt (aG (mA h r) top) 60 := by
            rcases Nat.lt_trichotomy i (f0 + mCnt (aG (mA h r) top) 60) with y | y | y
            · have h8 : LN[i]? = some LN[i] := List.getElem?_eq_getElem (by omega)
              exact absurd (t3 i _ h8 i1 y) ((hin i _ h8).mp i3)
            · exact y
            · exact absurd ((hin _ _ h9).mpr ni) (i4 _ (by omega) y)
          rw [z, ei, c_N ho h9]
      · right
        refine ⟨hc9, ?_⟩
        rcases hor with ⟨z, -⟩ | ⟨i, i1, i2, i3, i4, z⟩
        · exact z
        · have h8 : LN[i]? = some LN[i] := List.getElem?_eq_getElem (by omega)
          exact absurd (t3 i _ h8 i1 (by omega)) ((hin i _ h8).mp i3)
    have hC3 : CA (zz_pI (zz_pI (zz_pR h2 6 0 (t_ps h x) rC) 6 1 (t_ps h x) 0) 6 2 (t_ps h x) (zz_b (rC = none))) x (mf h r 27) (aD (mA h r) p q) (qD (mQ h r) f0 (mCnt (aG (mA h r) top) 60) LN.length (LN.getD (f0 + mCnt (aG (mA h r) top) 60) 0) v) σ κ (pf (fun e => ¬ aIn (mA h r) top e) LB) LN' sw t2 := by
      obtain ⟨c1, c2, c3, c4, c5, c6, c7, c9⟩ := hE
      refine ⟨c1, c2, c3, c4, c5, c6, c7, ?_, c9⟩
      have eps3 : t_ps (zz_pI (zz_pI (zz_pR h2 6 0 (t_ps h x) rC) 6 1 (t_ps h x) 0) 6 2 (t_ps h x) (zz_b (rC = none))) x = t_ps h x := eps2
      unfold c_po
      rw [eps3]
      rcases hrC with ⟨z1, z2, z3⟩ | ⟨z1, z2⟩
      · refine Or.inr (Or.inr (Or.inl ⟨if_pos z1, _, z3, if_pos z1, ?_, zz_pI_a _ _ _ _ _⟩))
        rw [← z2]; exact zz_pR_a _ _ _ _ _
      · refine Or.inr (Or.inr (Or.inr ⟨if_neg z1, ?_, zz_pI_a _ _ _ _ _, ?_⟩))
        · rw [← z2]; exact zz_pR_a _ _ _ _ _
        · rw [← zz_bT z2]; exact zz_pI_a _ _ _ _ _
    have hC4 := CA_sL hC3 u 0 (nI (mCnt (aG (mA h r) top) 60)).toInt64
    rw [← c3.2.2.2.2] at hC4
    refine ⟨_, rfl, h0, fun _ => ?_, Rel_of hgf hu3 (aM_up hM3) hC4⟩
    rw [gR_u hgf hu3]; exact if_pos ⟨rfl, rfl⟩
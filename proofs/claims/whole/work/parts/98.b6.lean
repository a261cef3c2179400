/-! calls that change little -/
/-- what is no array of the reference's -/
theorem mo_not {h : zz_H} {r b m : Nat} (hok : mo_ok h r) (hb : zz_tg h b = some (90, m)) (hm : m = 3 ∨ m = 4) (h27 : b ≠ mf h r 27) : ∀ j, mS j = true → mf h r j ≠ b := by
  intro j hj e
  have key : ∀ ty k, mo_sz j = some (ty, k) → ty = 90 ∧ k = m := fun ty k hs => by
    have := (hok j ty k hs).2
    rw [e, hb] at this
    cases this; exact ⟨rfl, rfl⟩
  unfold mS at hj
  split at hj <;> first | exact h27 e.symm | (have := key _ _ rfl; omega) | exact absurd hj (by decide)
theorem mA_not {h : zz_H} {r b : Nat} (hn : ∀ j, mS j = true → mf h r j ≠ b) (k : Nat) (v : Int32) : mA (zz_sI h b k v) r = mA h r := by
  funext i l
  show (if mS i = true then (if mf h r i = b ∧ l = k then v else zz_aI h (mf h r i) l) else 0) = (if mS i = true then zz_aI h (mf h r i) l else 0)
  by_cases e3 : mS i = true
  · rw [if_pos e3, if_pos e3, if_neg (fun z => hn i e3 z.1)]
  · rw [if_neg e3, if_neg e3]
section WK
variable {h : zz_H} {x m27 n r u : Nat} {A : aA} {f : aF} {σ κ : Nat → Nat} {LB LN : List Nat} {sw t2 : Nat}
theorem CA_ww (hC : CA h x m27 A f σ κ LB LN sw t2) {j : Nat} (hj : j < 4) (v : Int32) : CA (zz_sI h (t_ww h x) j v) x m27 (aU A 27 j v) f σ κ LB LN sw t2 := by
  obtain ⟨c1, c2, c3, c4, c5, c6, c7, c8, c9⟩ := hC
  have htw := c1.1.2.2.2.2.2.2
  refine ⟨c1, c2, c3, ⟨c4.1, c4.2.1, fun s ls => ?_⟩, fun l hl => ?_, fun i hi => ?_, c7, c8, c9⟩
  · obtain ⟨s1, s2, s3, s4, s5, s6⟩ := c4.2.2 s ls
    refine ⟨s1, s2, s3, s4, s5, fun i hi hl => ?_⟩
    show (if sg_w h (σ s) = t_ww h x ∧ i = j then v else zz_aI h (sg_w h (σ s)) i) = A 18 (4 * s + i)
    rw [if_neg (fun z => (c2.2.1 _ _ s1).2 z.1)]
    exact s6 i hi hl
  · obtain ⟨p1, p2, p3⟩ := c5 l hl
    obtain ⟨-, -, -, -, t1, t2, t3⟩ := c1.2.1.2.2 l hl
    have ne : ∀ b, zz_tg h b = some (90, 3) → b ≠ t_ww h x := fun b hb z => by rw [z, htw] at hb; cases hb
    refine ⟨p1, p2, fun i hi => ?_⟩
    obtain ⟨q1, q2, q3⟩ := p3 i hi
    exact ⟨(if_neg (fun z => ne _ t1 z.1)).trans q1, (if_neg (fun z => ne _ t2 z.1)).trans q2, (if_neg (fun z => ne _ t3 z.1)).trans q3⟩
  · show (if t_ww h x = t_ww h x ∧ i = j then v else zz_aI h (t_ww h x) i) = (if 27 = 27 ∧ i = j then v else A 27 i)
    by_cases e : i = j
    · rw [if_pos ⟨rfl, e⟩, if_pos ⟨rfl, e⟩]
    · rw [if_neg (fun z => e z.2), if_neg (fun z => e z.2)]; exact c6 i hi
theorem aM_27 (hM : aM A f n sw t2) (j : Nat) (v : Int32) : aM (aU A 27 j v) f n sw t2 := hM
/-- the position is at no segment, or at one -/
theorem c_at1 (hC : CA h x m27 A f σ κ LB LN sw t2) : (f 28 ≠ 1 ∧ t_sd h x = none) ∨ (f 28 = 1 ∧ ∃ w, aLive A w ∧ f 29 = nI w ∧ t_sd h x = some (σ w)) := by
  rcases hC.2.2.2.2.2.2.2.1 with ⟨e, -, z, -⟩ | ⟨e, w, lw, e1, e2, e3⟩ | ⟨e, w, -, -, -, z⟩ | ⟨e, -, z, -⟩
  · exact Or.inl ⟨by rw [e]; decide, by rw [t_sd, if_pos z]⟩
  · exact Or.inr ⟨e, w, lw, e1, by rw [t_sd, if_neg (by rw [e3]; decide)]; exact e2⟩
  · exact Or.inl ⟨by rw [e]; decide, by rw [t_sd, if_pos z]⟩
  · exact Or.inl ⟨by rw [e]; decide, by rw [t_sd, if_pos z]⟩
end WK
theorem ok_work : st_work Rel := fun n h x r u p1 p2 _ hR _ => by
  obtain ⟨hok, hap, hu, σ, κ, LB, LN, sw, t2, hM, hC⟩ := hR
  have tok := hC.1.1
  by_cases hb : 0 ≤ p1 ∧ p1 < 4
  · obtain ⟨j4, ej⟩ := nI_in9 (n := 4) rfl (by decide) (Int32.not_lt.mpr hb.1) hb.2
    refine ⟨_, ⟨x, p1, p2, rfl, Or.inl ⟨x, p1, p2, rfl, tok, fun z => absurd hb z, fun _ _ => ⟨rfl, 0, rfl, _, ⟨r, p1, p2, rfl, hok, fun z => absurd hb z, fun _ => ⟨rfl, ?_, ?_⟩⟩, fun _ _ z => z⟩⟩⟩, fun _ _ z => z⟩
    · exact if_pos ⟨rfl, rfl, rfl⟩
    · have hn := mo_not hok tok.2.2.2.2.2.2 (Or.inr rfl) hC.2.1.1
      refine Rel_mk (h1 := zz_sI h (t_ww h x) p1.toNatClampNeg p2) hok hap hu ?_ ?_ (aM_up (aM_27 hM _ _)) (CA_ww hC j4 p2) rfl rfl rfl (zz_pI_c _ _ _ _) (fun b m hb hm h27 => ?_)
      · have e1 := mA_s (h := zz_pI (zz_sI h (t_ww h x) p1.toNatClampNeg p2) 7 0 r 0) (r := r) hap (j := 27) rfl p1.toNatClampNeg p2
        refine e1.trans ?_
        show aU (mA (zz_sI h (t_ww h x) p1.toNatClampNeg p2) r) 27 _ _ = _
        rw [mA_not hn]
      · exact mQ_0 _ _ _
      · funext i
        exact if_neg (fun z => h27 z.1)
  · refine ⟨_, ⟨x, p1, p2, rfl, Or.inr ⟨x, p1, p2, rfl, tok, fun _ => ⟨rfl, 1, rfl, _, ⟨r, p1, p2, rfl, hok, fun _ => ⟨rfl, if_pos ⟨rfl, rfl, rfl⟩, ?_⟩, fun z => absurd z hb⟩, fun _ _ z => z⟩, fun z1 z2 => absurd ⟨z1, z2⟩ hb⟩⟩, fun _ _ z => z⟩
    exact Rel_mk (h1 := h) hok hap hu rfl (mQ_0 _ _ _) (aM_up hM) hC rfl rfl rfl (zz_pI_c _ _ _ _) (fun _ _ _ _ _ => rfl)
theorem ok_fix : st_fix Rel := fun n h x r u _ hR _ => by
  obtain ⟨hok, hap, hu, σ, κ, LB, LN, sw, t2, hM, hC⟩ := hR
  have tok := hC.1.1
  rcases c_at1 hC with ⟨hf, hs⟩ | ⟨hf, w, lw, e1, hs⟩
  · refine ⟨_, ⟨x, u, rfl, Or.inr ⟨x, rfl, tok, fun _ => ⟨rfl, 1, rfl, _, ⟨r, rfl, hok, fun _ => ⟨0, rfl, if_pos ⟨rfl, rfl, rfl⟩, fun z => absurd z (by decide), ?_⟩, fun z => absurd z hf⟩, fun _ _ z => z⟩, fun s z => (by rw [hs] at z; cases z)⟩⟩, fun _ _ z => z⟩
    exact Rel_mk (h1 := t_h0 h x) hok hap hu rfl ((mQ_0 _ _ _).trans (mQ_bg _ _)) (aM_up (aM_h0 hM)) (CA_h0 hC) rfl rfl rfl (fun c hc => (zz_pI_c _ _ _ _ c hc).trans (mo_bg_c _ _ c hc)) (fun _ _ _ _ _ => rfl)
  · refine ⟨_, ⟨x, u, rfl, Or.inl ⟨x, rfl, tok, fun z => (by rw [hs] at z; cases z), fun s z => ?_⟩⟩, fun _ _ z => z⟩
    rw [hs] at z
    cases z
    refine ⟨_, rfl, hu, 0, rfl, _, ⟨r, rfl, hok, fun z => absurd hf z, fun _ => ⟨w, lw.1, e1, zz_fI h 2 0 (σ w), ?_, if_pos ⟨rfl, rfl, rfl⟩, fun _ => if_pos ⟨rfl, rfl⟩, ?_⟩⟩, fun _ _ z => z⟩
    · show some (zz_i (mA h r 14 w)) = _
      rw [(hC.2.2.2.1.2.2 w lw).2.1]
    · have hC1 : CA (zz_pR (t_h0 h x) 0 6 x (some (σ w))) x (mf h r 27) (mA h r) (qU (qU (mQ h r) 30 (-1)) 31 (nI w)) σ κ LB LN sw t2 := by
        obtain ⟨c1, c2, c3, c4, c5, c6, c7, c8, r1, r2, r3, r4, r5, r6⟩ := CA_h0 hC
        exact ⟨c1, c2, c3, c4, c5, c6, c7, c8, r1, r2, r3, r4, r5, (if_pos ⟨rfl, rfl, rfl⟩ : zz_fR (zz_pR (t_h0 h x) 0 6 x (some (σ w))) 0 6 x = some (σ w)).trans (oS_s lw.1 rfl).symm⟩
      have hM1 : aM (mA h r) (qU (qU (mQ h r) 30 (-1)) 31 (nI w)) n sw t2 := by
        obtain ⟨m1, m2, m3, m4, m5, m6, m7, m8, m9, m10, m11, m12, m13⟩ := aM_h0 hM
        exact ⟨m1, m2, m3, m4, m5, m6, m7, m8, m9, m10, m11, m12, Or.inr ⟨w, lw, rfl⟩, m13.2⟩
      exact Rel_mk (h1 := zz_pR (t_h0 h x) 0 6 x (some (σ w))) hok hap hu rfl ((mQ_p _ _ (by decide) _).trans (by rw [mQ_bg]; rfl)) (aM_up hM1) hC1 rfl rfl rfl (fun c hc => (zz_pI_c _ _ _ _ c hc).trans (mo_bg_c _ _ c hc)) (fun _ _ _ _ _ => rfl)
theorem ok_word : st_word Rel := fun n h x r u p1 _ hR _ => by
  obtain ⟨hok, hap, hu, σ, κ, LB, LN, sw, t2, hM, hC⟩ := hR
  have tok := hC.1.1
  have hwf := CA_twf hM hC
  have fin2 : ∀ v, Rel (n + 1) (zz_pI (zz_pI h 7 0 r 0) 7 0 r v) x r u := fun v => Rel_mk (h1 := h) hok hap hu rfl ((mQ_0 _ _ _).trans (mQ_0 _ _ _)) (aM_up hM) hC rfl rfl rfl (fun c hc => (zz_pI_c _ _ _ _ c hc).trans (zz_pI_c _ _ _ _ c hc)) (fun _ _ _ _ _ => rfl)
  rcases c_at1 hC with ⟨hf, hs⟩ | ⟨hf, w, lw, e1, hs⟩
  · exact ⟨_, ⟨x, p1, u, rfl, Or.inr ⟨x, p1, rfl, tok, hwf.2.2.2.1, hwf.2.2.2.2, fun _ => Or.inl ⟨rfl, 1, rfl, _, ⟨r, p1, rfl, hok, hM.1, hM.2.1, hM.2.2.1, fun _ => ⟨0, rfl, if_pos ⟨rfl, rfl, rfl⟩, fun z => absurd z (by decide), fin2 1⟩, fun z => absurd z hf⟩, fun _ _ z => z⟩, fun s z => (by rw [hs] at z; cases z)⟩⟩, fun _ _ z => z⟩
  · obtain ⟨k1, k8, -⟩ := hM.1 w lw
    have eln : zz_fI h 1 3 (sg_k h (σ w)) = mA h r 4 (aK (mA h r) w) := by
      rw [c_sgk hC.2.2.2.1 lw]; exact ((hC.2.2.1.1 _ k8).2 (hM.2.2.1 w lw)).2.2.2.2.2.1
    have ehw : mo_hw h r (nI (mK h r w)) p1 ↔ 0 ≤ p1 ∧ p1 < zz_fI h 1 3 (sg_k h (σ w)) := by
      rw [eln, mo_hw, nI_clamp (by have : mK h r w < 8 := k8; omega)]; rfl
    by_cases hb : 0 ≤ p1 ∧ p1 < zz_fI h 1 3 (sg_k h (σ w))
    · obtain ⟨-, -, -, -, ln, l1, l2, l3, -⟩ := hM.2.1 _ k8 (hM.2.2.1 w lw)
      have hb2 : p1 < nI ln := by rw [← l3, ← eln]; exact hb.2
      obtain ⟨j4, ej⟩ := nI_in9 (n := ln) rfl (by omega) (Int32.not_lt.mpr hb.1) hb2
      have hwd := (hC.2.2.2.1.2.2 w lw).2.2.2.2.2 p1.toNatClampNeg (by omega) (by rw [← ej, ← eln]; exact hb.2)
      refine ⟨_, ⟨x, p1, u, rfl, Or.inl ⟨x, p1, rfl, tok, hwf.2.2.2.1, hwf.2.2.2.2, fun z => (by rw [hs] at z; cases z), fun s z => ?_⟩⟩, fun _ _ z => z⟩
      rw [hs] at z
      cases z
      refine ⟨fun z => absurd hb z, fun _ => ⟨_, rfl, hu, 0, rfl, _, ⟨r, p1, rfl, hok, hM.1, hM.2.1, hM.2.2.1, fun z => absurd hf z, fun _ => ⟨w, e1, lw, fun z => absurd (ehw.mpr hb) z, fun _ => ⟨_, rfl, if_pos ⟨rfl, rfl, rfl⟩, fun _ => (if_pos ⟨rfl, rfl⟩).trans (congrArg Int32.toInt64 hwd), ?_⟩⟩⟩, fun _ _ z => z⟩⟩
      exact Rel_mk (h1 := h) hok hap hu rfl (mQ_0 _ _ _) (aM_up hM) hC rfl rfl rfl (zz_pI_c _ _ _ _) (fun _ _ _ _ _ => rfl)
    · refine ⟨_, ⟨x, p1, u, rfl, Or.inr ⟨x, p1, rfl, tok, hwf.2.2.2.1, hwf.2.2.2.2, fun z => (by rw [hs] at z; cases z), fun s z => ?_⟩⟩, fun _ _ z => z⟩
      rw [hs] at z
      cases z
      exact ⟨fun _ => Or.inr ⟨rfl, 2, rfl, _, ⟨r, p1, rfl, hok, hM.1, hM.2.1, hM.2.2.1, fun z => absurd hf z, fun _ => ⟨w, e1, lw, fun _ => ⟨0, rfl, if_pos ⟨rfl, rfl, rfl⟩, fun z => absurd z (by decide), fin2 2⟩, fun z => absurd (ehw.mp z) hb⟩⟩, fun _ _ z => z⟩, fun z => absurd z hb⟩
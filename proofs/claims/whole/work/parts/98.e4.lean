/-! a tree is deleted: what the class holds -/
section KL
variable {h H : zz_H} {x m27 n top : Nat} {A : aA} {f : aF} {σ κ : Nat → Nat} {LB LN : List Nat} {sw t2 : Nat} {p q : Nat → Int32} {v : Int32}
theorem kl_map {a t : Nat} {L : List Nat} {P : Nat → Prop} (hP : ∀ i e, L[i]? = some e → (or_in H a t i ↔ P e)) : ∀ m, m ≤ L.length → (or_kl H a t m).map (fun i => L.getD i 0) = pf (fun e => ¬ P e) (L.take m)
  | 0, _ => rfl
  | m + 1, hm => by
    have ih := kl_map hP m (by omega)
    have h9 : L[m]? = some L[m] := List.getElem?_eq_getElem (by omega)
    have ht : L.take (m + 1) = L.take m ++ [L[m]] := by rw [List.take_add_one, h9]; rfl
    rw [ht, pf_app, ← ih]
    by_cases hi : or_in H a t m
    · rw [or_kl_in hi, pf_f (P := fun e => ¬ P e) (fun z => z ((hP m _ h9).mp hi))]
      exact (List.append_nil _).symm
    · rw [or_kl_out hi, pf_t (P := fun e => ¬ P e) (fun z => hi ((hP m _ h9).mpr z)), List.map_append]
      show _ ++ [L.getD m 0] = _ ++ [L[m]]
      rw [getD_at h9]
/-- nothing is held; what was fixed is so no more if it goes -/
theorem CN_de (hM : aM A f n sw t2) (hB : CN h x m27 A f σ κ) (lt : aLive A top) (hv : dV A top (f 31) v) : CN (de_h h x (σ top)) x m27 A (qU (qU f 30 (-1)) 31 v) σ κ ∧ (de_h h x (σ top) = t_h0 h x ∨ de_h h x (σ top) = zz_pR (t_h0 h x) 0 6 x none) := by
  have h0 := CN_h0 hB
  have key : ∀ s, aLive A s → (sg_at h (sg_lv h (σ top)) (σ s) = some (σ top) ↔ aIn A top s) := fun s ls => c_in hB.2.2.1 hB.2.2.2.1 hM.1 hM.2.2.1 hM.2.2.2.2.1 lt ls
  have e6 : zz_fR h 0 6 x = oS σ (f 31) := hB.2.2.2.2.2.2.2.2.2.2.2.2
  rcases hv with ⟨rfl, s, gs, es⟩ | ⟨rfl, hno⟩
  · have e7 : zz_fR h 0 6 x = some (σ s) := e6.trans (oS_s gs.1.1 es)
    have ed := de_3 (a := x) e7 ((key s gs.1).mpr gs.2)
    rw [ed]
    refine ⟨?_, Or.inr rfl⟩
    obtain ⟨c1, c2, c3, c4, c5, c6, c8, r1, r2, r3, r4, r5, r6⟩ := h0
    exact ⟨c1, c2, c3, c4, c5, c6, c8, r1, r2, r3, r4, r5, zz_pR_a _ _ _ _ _⟩
  · have ed : de_h h x (σ top) = t_h0 h x := by
      rcases hM.2.2.2.2.2.2.2.2.2.2.2.2.1 with z | ⟨s, ls, z⟩
      · exact de_1 (e6.trans (oS_n z))
      · exact de_2 (e6.trans (oS_s ls.1 z)) (fun w => hno ⟨s, ⟨ls, (key s ls).mp w⟩, z⟩)
    rw [ed]
    refine ⟨?_, Or.inl rfl⟩
    obtain ⟨c1, c2, c3, c4, c5, c6, c8, r1, r2, r3, r4, r5, r6⟩ := h0
    exact ⟨c1, c2, c3, c4, c5, c6, c8, r1, r2, r3, r4, r5, r6⟩
set_option maxHeartbeats 4000000 in
theorem CD_rm (hM : aM A f n sw t2) (hW2 : aWl (aD A p q) ∧ aNum (aD A p q)) {f1 : aF} (hB : CN H x m27 A f1 σ κ) (lt : aLive A top) (hp : dP A top p) (hq : dQ A top q) (hs2 : zz_fI H 5 2 (t_od H x) = nI LB.length) (hL : ∀ i e, LB[i]? = some e → zz_aR H (or_b H (t_od H x)) i = some (σ e)) (hm : ∀ e, e ∈ LB ↔ aLive A e) (hl : LB.Pairwise (fo_R (aLive A) (aP A) (s0 A))) {w : Nat → Nat → Nat → Option Nat} {xx : Nat → Nat → Option Nat} (hw : or_tf H w) (hJ : or_J H (t_od H x) (σ top) (or_s H (t_od H x)) w) (hX : or_X2 H (t_od H x) (σ top) xx) : (or_kl H (t_od H x) (σ top) (or_s H (t_od H x))).length = (pf (fun e => ¬ aIn A top e) LB).length ∧ or_s H (t_od H x) = LB.length ∧ CD (or_rm H (t_od H x) (or_kl H (t_od H x) (σ top) (or_s H (t_od H x))).length w xx) x m27 (aD A p q) f1 σ κ (pf (fun e => ¬ aIn A top e) LB) := by
  have hnd : LB.Nodup := pw_nodup (fun a => fo_R_irr a) hl
  have l60 : LB.length ≤ 60 := by
    rw [mCnt_len (G := aLive A) 60 LB hnd (fun s => by rw [hm s]; exact ⟨fun z => ⟨z.1, z⟩, fun z => z.2⟩)]
    exact mCnt_le _ _
  have hsz : or_s H (t_od H x) = LB.length := by rw [or_s, hs2]; exact nI_clamp (by omega)
  have hgB : ∀ i e, LB[i]? = some e → or_B H (t_od H x) i = σ e := fun i e hi => by rw [or_B, hL i e hi]; rfl
  have lB : ∀ e ∈ LB, aLive A e := fun e he => (hm e).mp he
  have lv := fun e => aD_live (q := q) (e := e) hp
  obtain ⟨c1, c2, c3, c4, c5, c6, c8, c9⟩ := hB
  have hin : ∀ i e, LB[i]? = some e → (or_in H (t_od H x) (σ top) i ↔ aIn A top e) := fun i e hi => by
    rw [or_in, hgB i e hi]
    exact c_in c3 c4 hM.1 hM.2.2.1 hM.2.2.2.2.1 lt (lB e (List.mem_of_getElem? hi))
  have hkl := kl_map (H := H) (a := t_od H x) (t := σ top) hin LB.length (Nat.le_refl _)
  rw [List.take_length] at hkl
  have hU : ∀ e, aLive A e → ¬ aIn A top e → (or_U H (t_od H x) (σ top) (or_s H (t_od H x)) (σ e) ↔ ∃ s, aG A top s ∧ A 17 s = nI e) := fun e le ni => by
    have e60 := le.1
    constructor
    · rintro ⟨j, j1, j2, j3⟩
      have h9 : LB[j]? = some LB[j] := List.getElem?_eq_getElem (by omega)
      have l9 := lB _ (List.mem_of_getElem? h9)
      have i9 := (hin j _ h9).mp j2
      rw [hgB j _ h9] at j3
      rcases j3 with z | z
      · have := c_σinj c4 hM.2.2.2.2.1 l9 le z
        exact absurd (this ▸ i9) ni
      · refine ⟨_, ⟨l9, i9⟩, ?_⟩
        rw [(c4.2.2 _ l9).2.2.2.2.1] at z
        rcases hM.2.2.2.2.2.2.2.2.2.2.1 _ l9 with y | ⟨b, lb, y, -⟩
        · rw [oS_n y] at z; cases z
        · rw [oS_s lb.1 y] at z
          rw [y, c_σinj c4 hM.2.2.2.2.1 lb le (Option.some.inj z)]
    · rintro ⟨s, gs, hs⟩
      obtain ⟨j, hj⟩ := List.getElem?_of_mem ((hm s).mpr gs.1)
      have := (List.getElem?_eq_some_iff.mp hj).1
      refine ⟨j, by omega, (hin j s hj).mpr gs.2, Or.inr ?_⟩
      rw [hgB j s hj, (c4.2.2 s gs.1).2.2.2.2.1, oS_s e60 hs]
  have h4 : ∀ e, aLive A e → ¬ aIn A top e → w 2 4 (σ e) = oS σ (q e) := fun e le ni => by
    have ng : ¬ aG A top e := fun z => ni z.2
    rcases hq e le.1 ng with ⟨z1, z2⟩ | ⟨z1, z2⟩
    · rw [(hJ (σ e)).1 ((hU e le ni).mpr z1), z2, oS_n rfl]
    · rw [(hJ (σ e)).2 (fun y => z1 ((hU e le ni).mp y)), z2]
      exact (c4.2.2 e le).2.2.2.2.1
  obtain ⟨w4, rfl⟩ : ∃ w4 : Nat → Option Nat, w = fun c j b => if c = 2 ∧ j = 4 then w4 b else zz_fR H c j b := ⟨w 2 4, by
    funext c j b
    by_cases e : c = 2 ∧ j = 4
    · rw [if_pos e, e.1, e.2]
    · rw [if_neg e]; exact hw c j b e⟩
  have h4 : ∀ e, aLive A e → ¬ aIn A top e → w4 (σ e) = oS σ (q e) := h4
  have eK : (or_kl H (t_od H x) (σ top) (or_s H (t_od H x))).length = (pf (fun e => ¬ aIn A top e) LB).length := by rw [hsz, ← hkl, List.length_map]
  refine ⟨eK, hsz, ?_⟩
  have nt : ∀ {b : Nat} {z : Nat × Nat}, zz_tg H b = some z → z ≠ (102, 60) → xx b = zz_aR H b := fun {b z} hb hz => by
    funext i
    refine hX.1 b i (fun y => ?_) (fun y => ?_)
    · rw [y, c1.2.2.2.2.2.1] at hb; exact hz (Option.some.inj hb).symm
    · rw [y, c1.2.2.2.2.2.2.1] at hb; exact hz (Option.some.inj hb).symm
  have apa := nt c1.2.1.2.1 (by decide)
  have akd := nt c1.1.2.2.2.2.2.1 (by decide)
  generalize eH2 : or_rm H (t_od H x) (or_kl H (t_od H x) (σ top) (or_s H (t_od H x))).length (fun c j b => if c = 2 ∧ j = 4 then w4 b else zz_fR H c j b) xx = H2
  have epl : ∀ i, pa_l H2 (t_pa H x) i = pa_l H (t_pa H x) i := fun i => by
    rw [← eH2]
    show (xx (pa_a H (t_pa H x)) i).getD 0 = _
    rw [apa]; rfl
  have epa : t_pa H2 x = t_pa H x := by rw [← eH2]; rfl
  refine ⟨⟨?_, ⟨?_, ?_, fun i hi => ?_⟩, fun i j hi hj => ?_, ?_⟩, ?_, ⟨fun t ht => ?_, ?_⟩, ⟨?_, ?_, fun e le => ?_⟩, fun l hl => ?_, ?_, ⟨?_, fun i e hi => ?_, fun e => ?_, ?_⟩, ?_⟩
  · rw [← eH2]; exact c1.1
  · rw [← eH2]; exact c1.2.1.1
  · rw [← eH2]; exact c1.2.1.2.1
  · obtain ⟨q1, q2⟩ := c1.2.1.2.2 i hi
    rw [epa, epl i]
    refine ⟨?_, ?_⟩
    · rw [← eH2]
      show xx (pa_a H (t_pa H x)) i = _
      rw [apa]; exact q1
    · rw [← eH2]; exact q2
  · rw [epa, epl i, epl j, ← eH2]; exact c1.2.2.1 i j hi hj
  · rw [← eH2]; exact c1.2.2.2
  · rw [← eH2]; exact c2
  · obtain ⟨q1, q2⟩ := c3.1 t ht
    rw [← eH2]
    refine ⟨fun z => ?_, fun d => ⟨?_, (q2 d).2⟩⟩
    · show xx (t_kd H x) t = none
      rw [akd]; exact q1 z
    · show xx (t_kd H x) t = some (κ t)
      rw [akd]; exact (q2 d).1
  · rw [← eH2]; exact c3.2
  · rw [← eH2]; exact c4.1
  · rw [← eH2]; exact c4.2.1
  · obtain ⟨le0, ni⟩ := (lv e).mp le
    obtain ⟨z1, z2, z3, z4, z5, z6⟩ := c4.2.2 e le0
    rw [← eH2]
    refine ⟨z1, ?_, z3, z4, ?_, z6⟩
    · show zz_fI H 2 0 (σ e) = p e
      rw [aD_14 hp le0 ni]; exact z2
    · show w4 (σ e) = oS σ (q e)
      exact h4 e le0 ni
  · obtain ⟨q1, q2, q3⟩ := c5 l hl
    rw [epa, epl l, ← eH2]
    exact ⟨q1, q2, q3⟩
  · rw [← eH2]; exact c6
  · rw [← eH2, ← eK]
    exact zz_pI_a (or_rw H _ xx) 5 2 (t_od H x) _
  · have hi2 : (or_kl H (t_od H x) (σ top) LB.length)[i]?.map (fun i => LB.getD i 0) = some e := by rw [← List.getElem?_map, hkl]; exact hi
    cases hz : (or_kl H (t_od H x) (σ top) LB.length)[i]? with
    | none => rw [hz] at hi2; cases hi2
    | some k =>
      rw [hz] at hi2
      have hi2 : LB.getD k 0 = e := Option.some.inj hi2
      have il := (List.getElem?_eq_some_iff.mp hz).1
      have kd : (or_kl H (t_od H x) (σ top) LB.length).getD i 0 = k := getD_at hz
      have kl : k < LB.length := by rw [← kd]; exact or_kl_lt H _ _ _ i il
      have h9 : LB[k]? = some e := by
        have : LB[k]? = some LB[k] := List.getElem?_eq_getElem kl
        rw [this, ← hi2, getD_at this]
      have hx2 := hX.2 i (by rw [hsz]; exact il)
      rw [hsz, kd] at hx2
      rw [← eH2]
      show xx (or_b H (t_od H x)) i = some (σ e)
      rw [hx2]; exact hL k e h9
  · rw [pf_mem, hm e, lv e]
  · exact aD_pw hM (Or.inr hW2) hp hm hl
  · rw [← eH2]; exact c9
end KL
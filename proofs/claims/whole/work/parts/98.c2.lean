/-! twins of types -/
def aX1 (A : aA) (t u : Int32) : Prop := ¬ aTy A t ∨ ¬ aTy A u ∨ t = u ∨ A 4 t.toNatClampNeg ≠ A 4 u.toNatClampNeg ∨ A 5 t.toNatClampNeg ≠ A 5 u.toNatClampNeg ∨ A 5 t.toNatClampNeg = -1
section TW
variable {h g : zz_H} {x m27 n r u : Nat} {A : aA} {f : aF} {σ κ : Nat → Nat} {LB LN : List Nat} {sw t2 : Nat}
theorem CA_tw (hC : CA h x m27 A f σ κ LB LN sw t2) {j1 j2 : Nat} (h1 : j1 < 8) (h2 : j2 < 8) (d1 : A 1 j1 ≠ 0) (d2 : A 1 j2 ≠ 0) (hne : j1 ≠ j2) : CA (zz_pR (zz_pR h 1 7 (κ j1) (some (κ j2))) 1 7 (κ j2) (some (κ j1))) x m27 (aU (aU A 8 j1 (nI j2)) 8 j2 (nI j1)) f σ κ LB LN sw t2 := by
  obtain ⟨c1, c2, c3, c4, c5, c6, c7, c8, c9⟩ := hC
  refine ⟨c1, c2, ⟨fun t ht => ⟨(c3.1 t ht).1, fun d => ⟨((c3.1 t ht).2 d).1, ?_⟩⟩, c3.2⟩, c4, c5, c6, c7, c8, c9⟩
  obtain ⟨k1, k2, k3, k4, k5, k6, k7, k8, k9⟩ := ((c3.1 t ht).2 d).2
  refine ⟨k1, k2, k3, k4, k5, k6, k7, k8, ?_⟩
  show zz_fR (zz_pR (zz_pR h 1 7 (κ j1) (some (κ j2))) 1 7 (κ j2) (some (κ j1))) 1 7 (κ t) = oS κ (aU (aU A 8 j1 (nI j2)) 8 j2 (nI j1) 8 t)
  by_cases e2 : t = j2
  · rw [e2, zz_pR_a, aU_eq, oS_s (by omega) rfl]
  · rw [zz_pR_n _ _ _ _ (fun z => e2 (c_κinj c3 ht h2 d d2 z)), aU_ne e2]
    by_cases e1 : t = j1
    · rw [e1, zz_pR_a, aU_eq, oS_s (by omega) rfl]
    · rw [zz_pR_n _ _ _ _ (fun z => e1 (c_κinj c3 ht h1 d d1 z)), aU_ne e1]; exact k9
theorem aM_tw (hM : aM A f n sw t2) (hv : ∀ s, ¬ aLive A s) {j1 j2 : Nat} (h1 : j1 < 8) (h2 : j2 < 8) (d1 : A 1 j1 ≠ 0) (d2 : A 1 j2 ≠ 0) (hne : j1 ≠ j2) (e4 : A 4 j1 = A 4 j2) (e5 : A 5 j1 = A 5 j2) (e6 : A 5 j1 ≠ -1) (f1 : A 8 j1 = -1) (f2 : A 8 j2 = -1) : aM (aU (aU A 8 j1 (nI j2)) 8 j2 (nI j1)) f n sw t2 := by
  obtain ⟨m1, m2, m3, m4, m5, m6, m7, m8, m9, m10, m11, m12, m13⟩ := hM
  have a1 : aU (aU A 8 j1 (nI j2)) 8 j2 (nI j1) 8 j1 = nI j2 := by rw [aU_ne hne, aU_eq]
  have a2 : aU (aU A 8 j1 (nI j2)) 8 j2 (nI j1) 8 j2 = nI j1 := aU_eq _ _ _ _
  have a3 : ∀ t, t ≠ j1 → t ≠ j2 → aU (aU A 8 j1 (nI j2)) 8 j2 (nI j1) 8 t = A 8 t := fun t q1 q2 => by rw [aU_ne q2, aU_ne q1]
  refine ⟨m1, m2, m3, m4, m5, m6, m7, m8, m9, fun t ht => ?_, fun s ls => absurd ls (hv s), m12, m13⟩
  by_cases q1 : t = j1
  · subst q1
    exact Or.inr ⟨d1, j2, h2, d2, a1, a2, e4, e5, e6⟩
  · by_cases q2 : t = j2
    · subst q2
      exact Or.inr ⟨d2, j1, h1, d1, a2, a1, e4.symm, e5.symm, (show A 5 t ≠ -1 from fun z => e6 (e5.trans z))⟩
    · rw [a3 t q1 q2]
      rcases m10 t ht with z | ⟨z1, v, v8, z2, z3, z4, z5⟩
      · exact Or.inl z
      · have n1 : v ≠ j1 := fun z => by rw [z, f1] at z4; exact nI_neg (by omega) z4.symm
        have n2 : v ≠ j2 := fun z => by rw [z, f2] at z4; exact nI_neg (by omega) z4.symm
        exact Or.inr ⟨z1, v, v8, z2, z3, (a3 v n1 n2).trans z4, z5⟩
end TW
set_option maxHeartbeats 4000000 in
theorem ok_twins : st_twins Rel := fun n h x r u p1 p2 hn hR _ => by
  obtain ⟨hok, hap, hu, σ, κ, LB, LN, sw, t2, hM, hC⟩ := hR
  have tok := hC.1.1
  have hC0 := CA_h0 hC
  have hM0 := aM_h0 hM
  have c0 : cR h (t_h0 h x) r := cR_rf hok hap
  have bad : ∀ k : Int32, zz_fI (zz_pI (mo_bg (t_h0 h x) r) 7 0 r k) 7 0 r = k ∧ Rel (n + 1) (zz_pI (mo_bg (t_h0 h x) r) 7 0 r k) x r u := fun k => ⟨zz_pI_a _ _ _ _ _, Rel_of (gR_p0 (gR_bg (gR_of c0)) k) hu (aM_up hM0) hC0⟩
  have M1 : aX1 (mA h r) p1 p2 → zz_up T_M_twins [zz_r 7 (some r), zz_i p1, zz_i p2] (t_h0 h x) (fun w h2 => w = none ∧ zz_fI h2 7 0 r = 1 ∧ Rel (n + 1) h2 x r u) := fun z => ⟨_, ⟨r, p1, p2, rfl, hok, fun _ => ⟨rfl, bad 1⟩, fun w => absurd z w⟩, fun _ _ z => z⟩
  have M2 : ¬ aX1 (mA h r) p1 p2 → mo_x2 h r p1 p2 → zz_up T_M_twins [zz_r 7 (some r), zz_i p1, zz_i p2] (t_h0 h x) (fun w h2 => w = none ∧ zz_fI h2 7 0 r = 2 ∧ Rel (n + 1) h2 x r u) := fun z1 z2 => ⟨_, ⟨r, p1, p2, rfl, hok, fun w => absurd w z1, fun _ => ⟨fun _ => ⟨rfl, bad 2⟩, fun w => absurd z2 w⟩⟩, fun _ _ z => z⟩
  have start : ∀ {P : Option zz_V → zz_H → Prop}, (B_T_twins [zz_r 0 (some x), zz_i p1, zz_i p2] h (fun _ _ => False) (fun X h' => (X = xx_IA ∧ P (some (zz_i 1)) h') ∨ (X = xx_IS ∧ P (some (zz_i 2)) h'))) → zz_up T_W_twins [zz_r 0 (some x), zz_i p1, zz_i p2] h P := fun hB => ⟨_, ⟨x, p1, p2, rfl, Or.inr hB⟩, fun _ _ z => z⟩
  rcases c_tk hC.2.2.1 p1 with ⟨hno, hk⟩ | ⟨hty, j1, j18, ej1, ej12, dj1, hk⟩
  · exact start ⟨x, p1, p2, rfl, tok, fun _ => Or.inl ⟨rfl, 1, rfl, M1 (Or.inl hno)⟩, fun k z => (by rw [hk] at z; cases z)⟩
  · rcases c_tk hC.2.2.1 p2 with ⟨hno, hk2⟩ | ⟨hty2, j2, j28, ej2, ej22, dj2, hk2⟩
    · refine start ⟨x, p1, p2, rfl, tok, fun z => (by rw [hk] at z; cases z), fun k z => ⟨fun _ => Or.inl ⟨rfl, 1, rfl, M1 (Or.inr (Or.inl hno))⟩, fun k z => (by rw [hk2] at z; cases z)⟩⟩
    · have q1 := ((hC.2.2.1.1 j1 j18).2 dj1).2
      have q2 := ((hC.2.2.1.1 j2 j28).2 dj2).2
      have e4 : (zz_fI h 1 3 (κ j1) = zz_fI h 1 3 (κ j2)) ↔ mA h r 4 p1.toNatClampNeg = mA h r 4 p2.toNatClampNeg := by rw [ej12, ej22, q1.2.2.2.2.1, q2.2.2.2.2.1]
      have e5 : (zz_fI h 1 4 (κ j1) = zz_fI h 1 4 (κ j2)) ↔ mA h r 5 p1.toNatClampNeg = mA h r 5 p2.toNatClampNeg := by rw [ej12, ej22, q1.2.2.2.2.2.1, q2.2.2.2.2.2.1]
      have e5' : zz_fI h 1 4 (κ j1) = mA h r 5 p1.toNatClampNeg := by rw [ej12, q1.2.2.2.2.2.1]
      have tw1 : zz_fR h 1 7 (κ j1) = none ↔ mA h r 8 p1.toNatClampNeg = -1 := by
        rw [ej12, q1.2.2.2.2.2.2.2.2]; exact ⟨oS_none, oS_n⟩
      have tw2 : zz_fR h 1 7 (κ j2) = none ↔ mA h r 8 p2.toNatClampNeg = -1 := by
        rw [ej22, q2.2.2.2.2.2.2.2.2]; exact ⟨oS_none, oS_n⟩
      have eqk : κ j1 = κ j2 ↔ p1 = p2 := by
        constructor
        · intro z; rw [ej1, ej2, c_κinj hC.2.2.1 j18 j28 dj1 dj2 z]
        · intro z; rw [← ej12, ← ej22, z]
      by_cases hx1 : aX1 (mA h r) p1 p2
      · refine start ⟨x, p1, p2, rfl, tok, fun z => (by rw [hk] at z; cases z), fun k z => ⟨fun z => (by rw [hk2] at z; cases z), fun k' z' => ?_⟩⟩
        rw [hk] at z; rw [hk2] at z'
        cases z; cases z'
        refine ⟨fun _ => Or.inl ⟨rfl, 1, rfl, M1 hx1⟩, fun hne => ⟨fun _ => Or.inl ⟨rfl, 1, rfl, M1 hx1⟩, fun ⟨g1, g2⟩ => ⟨fun _ => Or.inl ⟨rfl, 1, rfl, M1 hx1⟩, fun g3 => ?_⟩⟩⟩
        exfalso
        rcases hx1 with z | z | z | z | z | z
        · exact z hty
        · exact z hty2
        · exact hne (eqk.mpr z)
        · exact z (e4.mp g1)
        · exact z (e5.mp g2)
        · exact g3 (e5'.trans z)
      · have hne : κ j1 ≠ κ j2 := fun z => hx1 (Or.inr (Or.inr (Or.inl (eqk.mp z))))
        have g1 : zz_fI h 1 3 (κ j1) = zz_fI h 1 3 (κ j2) := Classical.byContradiction (fun z => hx1 (Or.inr (Or.inr (Or.inr (Or.inl (fun w => z (e4.mpr w)))))))
        have g2 : zz_fI h 1 4 (κ j1) = zz_fI h 1 4 (κ j2) := Classical.byContradiction (fun z => hx1 (Or.inr (Or.inr (Or.inr (Or.inr (Or.inl (fun w => z (e5.mpr w))))))))
        have g3 : zz_fI h 1 4 (κ j1) ≠ -1 := fun z => hx1 (Or.inr (Or.inr (Or.inr (Or.inr (Or.inr (e5'.symm.trans z))))))
        by_cases hx2 : mo_x2 h r p1 p2
        · refine start ⟨x, p1, p2, rfl, tok, fun z => (by rw [hk] at z; cases z), fun k z => ⟨fun z => (by rw [hk2] at z; cases z), fun k' z' => ?_⟩⟩
          rw [hk] at z; rw [hk2] at z'
          cases z; cases z'
          refine ⟨fun w => absurd w hne, fun _ => ⟨fun w => (w.elim (fun w => absurd g1 w) (fun w => absurd g2 w)), fun _ => ⟨fun w => absurd w g3, fun _ => ⟨fun _ => Or.inr ⟨rfl, 2, rfl, M2 hx1 hx2⟩, fun ⟨w1, w2⟩ => ⟨fun _ => Or.inr ⟨rfl, 2, rfl, M2 hx1 hx2⟩, fun w3 => ?_⟩⟩⟩⟩⟩
          rcases hx2 with z | z | z
          · exact z (tw1.mp w1)
          · exact z (tw2.mp w2)
          · exact (c_num hM hC (by omega)).mpr z w3
        · have w1 : zz_fR h 1 7 (κ j1) = none := tw1.mpr (Classical.byContradiction (fun z => hx2 (Or.inl z)))
          have w2 : zz_fR h 1 7 (κ j2) = none := tw2.mpr (Classical.byContradiction (fun z => hx2 (Or.inr (Or.inl z))))
          have w3 : zz_fI h 7 12 r ≤ 0 := Classical.byContradiction (fun z => hx2 (Or.inr (Or.inr z)))
          have w4 : zz_fI h 0 7 x = 0 := Classical.byContradiction (fun z => (c_num hM hC (by omega)).mp z w3)
          refine ⟨_, ⟨x, p1, p2, rfl, Or.inl ⟨x, p1, p2, rfl, tok, fun z => (by rw [hk] at z; cases z), fun k z => ⟨fun z => (by rw [hk2] at z; cases z), fun k' z' => ?_⟩⟩⟩, fun _ _ z => z⟩
          rw [hk] at z; rw [hk2] at z'
          cases z; cases z'
          refine ⟨fun w => absurd w hne, fun _ => ⟨fun w => (w.elim (fun w => absurd g1 w) (fun w => absurd g2 w)), fun _ => ⟨fun w => absurd w g3, fun _ => ⟨fun w => (w.elim (fun w => absurd w1 w) (fun w => absurd w2 w)), fun _ => ⟨fun w => absurd w4 w, fun _ => ⟨rfl, 0, rfl, ?_⟩⟩⟩⟩⟩⟩
          have nj : j1 ≠ j2 := fun z => hne (by rw [z])
          have hC1 := CA_tw hC0 j18 j28 dj1 dj2 nj
          have hM1 := aM_tw hM0 (c_void hM w3 (by omega)) j18 j28 dj1 dj2 nj (by rw [← ej12, ← ej22]; exact e4.mp g1) (by rw [← ej12, ← ej22]; exact e5.mp g2) (by rw [← ej12]; exact fun z => g3 (e5'.trans z)) (by rw [← ej12]; exact tw1.mp w1) (by rw [← ej22]; exact tw2.mp w2)
          have c1 : cR h (zz_pR (zz_pR (t_h0 h x) 1 7 (κ j1) (some (κ j2))) 1 7 (κ j2) (some (κ j1))) r := c0
          have g9 := gR_s (gR_s (gR_bg (gR_of c1)) (j := 8) rfl j1 (nI j2) rfl) (j := 8) rfl j2 (nI j1) rfl
          refine ⟨_, ⟨r, p1, p2, rfl, hok, fun w => absurd w hx1, fun _ => ⟨fun w => absurd w hx2, fun _ => ⟨rfl, zz_pI_a _ _ _ _ _, ?_⟩⟩⟩, fun _ _ z => z⟩
          rw [ej12, ej22, ej1, ej2]
          exact Rel_of g9 hu (aM_up hM1) hC1
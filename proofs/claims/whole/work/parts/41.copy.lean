/-! Order: trees are copied to their places -/
def or_rp (h : zz_H) (x : Nat → Nat → Option Nat) : zz_H := (h.1, h.2.1, h.2.2.1, h.2.2.2.1, x, h.2.2.2.2.2)
theorem sg_at_rp (h : zz_H) (x : Nat → Nat → Option Nat) (lv : Int32) (a : Nat) : sg_at (or_rp h x) lv a = sg_at h lv a := rfl
theorem sg_wf_rp {h : zz_H} (x : Nat → Nat → Option Nat) (hw : sg_wf h) : sg_wf (or_rp h x) := hw
theorem or_rp_sR (h : zz_H) (x : Nat → Nat → Option Nat) (a i : Nat) (v : Option Nat) : zz_sR (or_rp h x) a i v = or_rp h (fun b j => if b = a ∧ j = i then v else x b j) := rfl
/-- the first m from f on in bySequence stand from t on in now -/
def or_cp (h : zz_H) (a f t m : Nat) : zz_H := or_rp h (fun b j => if b = or_n h a ∧ t ≤ j ∧ j < t + m then zz_aR h (or_b h a) (f + (j - t)) else zz_aR h b j)
theorem or_cp_0 (h : zz_H) (a f t : Nat) : or_cp h a f t 0 = h := by
  have e : (fun b j => if b = or_n h a ∧ t ≤ j ∧ j < t + 0 then zz_aR h (or_b h a) (f + (j - t)) else zz_aR h b j) = zz_aR h := by
    funext b j
    rw [if_neg (by omega)]
  rw [or_cp, e]; rfl
theorem or_cp_b {h : zz_H} {a : Nat} (hok : or_ok h a) (f t m j : Nat) : zz_aR (or_cp h a f t m) (or_b h a) j = zz_aR h (or_b h a) j := by
  show (if or_b h a = or_n h a ∧ t ≤ j ∧ j < t + m then zz_aR h (or_b h a) (f + (j - t)) else zz_aR h (or_b h a) j) = _
  rw [if_neg (fun z => hok.2.2.2.2.1 z.1)]
theorem or_cp_B {h : zz_H} {a : Nat} (hok : or_ok h a) (f t m j : Nat) : or_B (or_cp h a f t m) a j = or_B h a j := congrArg (fun z => z.getD 0) (or_cp_b hok f t m j)
theorem or_cp_okB {h : zz_H} {a : Nat} (hok : or_okB h a) (f t m : Nat) : or_okB (or_cp h a f t m) a := ⟨hok.1, fun i hi => by
  rw [or_cp_B hok.1]
  exact (or_cp_b hok.1 f t m i).trans (hok.2 i hi)⟩
theorem or_cp_s {h : zz_H} {a : Nat} (hok : or_okB h a) {f t m : Nat} (hf : f + m < or_s h a) : zz_sR (or_cp h a f t m) (or_n h a) (t + m) (some (or_B h a (f + m))) = or_cp h a f t (m + 1) := by
  rw [or_cp, or_rp_sR, or_cp]
  congr 1
  funext b j
  by_cases h1 : b = or_n h a ∧ j = t + m
  · rw [if_pos h1, if_pos ⟨h1.1, by omega, by omega⟩, ← hok.2 _ hf]
    congr 1
    omega
  · rw [if_neg h1]
    by_cases h2 : b = or_n h a ∧ t ≤ j ∧ j < t + m
    · rw [if_pos h2, if_pos ⟨h2.1, h2.2.1, by omega⟩]
    · rw [if_neg h2, if_neg (fun z => h2 ⟨z.1, z.2.1, by have := fun w => h1 ⟨z.1, w⟩; omega⟩)]
def or_in (h : zz_H) (a r i : Nat) : Prop := sg_at h (sg_lv h r) (or_B h a i) = some r
def or_ct (h : zz_H) (a f t m : Nat) : Prop := f + m ≤ or_s h a ∧ t + m ≤ or_s h a ∧ (∀ j, j < m → or_in h a (or_B h a f) (f + j)) ∧ (f + m < or_s h a → t + m < or_s h a → ¬ or_in h a (or_B h a f) (f + m))
def T_O_copyTree : zz_Tr := fun as h post => ∃ a f t, as = [zz_r 5 (some a), zz_i (nI f), zz_i (nI t)] ∧ f < or_s h a ∧ t ≤ or_s h a ∧ or_okB h a ∧ sg_wf h ∧ ∀ m, or_ct h a f t m → post (some (zz_i (nI (t + m)))) (or_cp h a f t m)
set_option maxRecDepth 100000 in
set_option maxHeartbeats 4000000 in
theorem m_O_copyTree (l : Launch) : zz_Met l y_O_copyTree w_O_copyTree { frames := 3, cells := 0, slots := 0, locals := 56 } T_O_copyTree := by
  refine zz_ofZ (by decide) (fun as h post hT => ?_) ?_
  · obtain ⟨a, f, t, rfl, hf, ht, hok, hwf, hp⟩ := hT
    exact ⟨by simp [zz_cat], by simp⟩
  · intro D DA h as post hT p e s m args below meth c Q C hr hlk hnm hQ
    obtain ⟨a, f, t, rfl, hf, ht, hok, hwf, hp⟩ := hT
    have hb := hok.1.2.2.2.2.2.1
    have lp13 : ∀ n u, or_s h a + 1 ≤ n + (f + u) → f + u ≤ or_s h a → t + u ≤ or_s h a → (∀ j, j < u → or_in h a (or_B h a f) (f + j)) → zz_Z p l e { frames := 3, cells := 0, slots := 0, locals := 56 } s m args below meth c Q D DA (zz_A h s.heap.size) h 6 13 [some (zz_r 5 (some a)), some (zz_i (nI f)), some (zz_i (nI t)), some (zz_r 2 (some (or_B h a f))), some (zz_i (nI (t + u))), some (zz_i (nI (f + u)))] [] (or_cp h a f t u) 0 0 := by
      intro n
      induction n with
      | zero =>
        intro i hni hi
        exact absurd hni (by omega)
      | succ n ih =>
        intro u hni hfm htm hall
        refine zz_iload (q := 15) (i := 5) C (by decide +kernel) rfl rfl ?_
        refine zz_aload_n (q := 16) (f := 0) (i := 0) C (by decide +kernel) rfl rfl rfl ?_
        refine zz_getI (q := 19) C gf_O_35 (by decide +kernel) rfl (by first | rfl | assumption) hok.1.2.2.2.2.2.2 ?_
        refine zz_icmp_ge (off := 49) (tgt := 68) (q := 22) C (by decide +kernel) (by decide) rfl (fun c19 => ?_) (fun c19 => ?_)
        · refine zz_iload (q := 70) (i := 4) C (by decide +kernel) rfl rfl ?_
          refine zz_iret C hr hlk (by decide +kernel) hQ (by decide) (by decide) ?_
          first
            | exact hp u ⟨hfm, htm, hall, fun z _ => absurd ((nI_leI (a := or_s h a) (b := f + u) (Nat.lt_of_le_of_lt hb (by decide)) (Nat.lt_of_le_of_lt (Nat.le_trans hfm hb) (by decide))).mp c19) (Nat.not_le_of_lt z)⟩
            | exact hp u ⟨hfm, htm, hall, fun _ z => absurd ((nI_leI (a := or_s h a) (b := t + u) (Nat.lt_of_le_of_lt hb (by decide)) (Nat.lt_of_le_of_lt (Nat.le_trans htm hb) (by decide))).mp c28) (Nat.not_le_of_lt z)⟩
            | exact hp u ⟨hfm, htm, hall, fun _ _ => zz_b_f c42⟩
        · have hi : f + u < or_s h a := Nat.lt_of_not_le (fun z => c19 (nI_le z (by omega)))
          refine zz_iload (q := 24) (i := 4) C (by decide +kernel) rfl rfl ?_
          refine zz_aload_n (q := 25) (f := 0) (i := 0) C (by decide +kernel) rfl rfl rfl ?_
          refine zz_getI (q := 28) C gf_O_35 (by decide +kernel) rfl (by first | rfl | assumption) hok.1.2.2.2.2.2.2 ?_
          refine zz_icmp_ge (off := 40) (tgt := 68) (q := 31) C (by decide +kernel) (by decide) rfl (fun c28 => ?_) (fun c28 => ?_)
          · refine zz_iload (q := 70) (i := 4) C (by decide +kernel) rfl rfl ?_
            refine zz_iret C hr hlk (by decide +kernel) hQ (by decide) (by decide) ?_
            first
              | exact hp u ⟨hfm, htm, hall, fun z _ => absurd ((nI_leI (a := or_s h a) (b := f + u) (Nat.lt_of_le_of_lt hb (by decide)) (Nat.lt_of_le_of_lt (Nat.le_trans hfm hb) (by decide))).mp c19) (Nat.not_le_of_lt z)⟩
              | exact hp u ⟨hfm, htm, hall, fun _ z => absurd ((nI_leI (a := or_s h a) (b := t + u) (Nat.lt_of_le_of_lt hb (by decide)) (Nat.lt_of_le_of_lt (Nat.le_trans htm hb) (by decide))).mp c28) (Nat.not_le_of_lt z)⟩
              | exact hp u ⟨hfm, htm, hall, fun _ _ => zz_b_f c42⟩
          · have hi2 : t + u < or_s h a := Nat.lt_of_not_le (fun z => c28 (nI_le z (by omega)))
            refine zz_aload_n (q := 32) (f := 0) (i := 0) C (by decide +kernel) rfl rfl rfl ?_
            refine zz_getR (q := 35) C gf_O_11 (by decide +kernel) rfl (by first | rfl | assumption) hok.1.1 ?_
            refine zz_iload (q := 37) (i := 5) C (by decide +kernel) rfl rfl ?_
            refine zz_aaload (q := 38) C 4 rfl (by decide) (by decide +kernel) rfl rfl hok.1.2.2.1 rfl (by have := hok.1.2.2.2.2.2.1; omega) (by decide) ((or_cp_b hok.1 f t u _).trans (hok.2 _ hi)) ?_
            refine zz_aload_n (q := 39) (f := 3) (i := 3) C (by decide +kernel) rfl rfl rfl ?_
            refine zz_callV (q := 42) C (m_S_isInTreeOf l) cv_O_86 (by decide +kernel) rfl rfl rfl (by first | rfl | assumption) (by decide) (by decide) (Nat.le_of_ble_eq_true rfl) ⟨_, _, rfl, sg_wf_rp _ hwf, ?_⟩
            refine zz_if_eq (off := 26) (tgt := 68) (q := 45) C (by decide +kernel) (by decide) rfl (fun c42 => ?_) (fun c42 => ?_)
            · refine zz_iload (q := 70) (i := 4) C (by decide +kernel) rfl rfl ?_
              refine zz_iret C hr hlk (by decide +kernel) hQ (by decide) (by decide) ?_
              first
                | exact hp u ⟨hfm, htm, hall, fun z _ => absurd ((nI_leI (a := or_s h a) (b := f + u) (Nat.lt_of_le_of_lt hb (by decide)) (Nat.lt_of_le_of_lt (Nat.le_trans hfm hb) (by decide))).mp c19) (Nat.not_le_of_lt z)⟩
                | exact hp u ⟨hfm, htm, hall, fun _ z => absurd ((nI_leI (a := or_s h a) (b := t + u) (Nat.lt_of_le_of_lt hb (by decide)) (Nat.lt_of_le_of_lt (Nat.le_trans htm hb) (by decide))).mp c28) (Nat.not_le_of_lt z)⟩
                | exact hp u ⟨hfm, htm, hall, fun _ _ => zz_b_f c42⟩
            · refine zz_aload_n (q := 46) (f := 0) (i := 0) C (by decide +kernel) rfl rfl rfl ?_
              refine zz_getR (q := 49) C gf_O_17 (by decide +kernel) rfl (by first | rfl | assumption) hok.1.2.1 ?_
              refine zz_iload (q := 51) (i := 4) C (by decide +kernel) rfl rfl ?_
              refine zz_aload_n (q := 52) (f := 0) (i := 0) C (by decide +kernel) rfl rfl rfl ?_
              refine zz_getR (q := 55) C gf_O_11 (by decide +kernel) rfl (by first | rfl | assumption) hok.1.1 ?_
              refine zz_iload (q := 57) (i := 5) C (by decide +kernel) rfl rfl ?_
              refine zz_aaload (q := 58) C 4 rfl (by decide) (by decide +kernel) rfl rfl hok.1.2.2.1 rfl (by have := hok.1.2.2.2.2.2.1; omega) (by decide) ((or_cp_b hok.1 f t u _).trans (hok.2 _ hi)) ?_
              refine zz_aastore (q := 59) C (ci := 2) 4 rfl rfl (by decide +kernel) rfl rfl hok.1.2.2.2.1 rfl (by omega) (by decide) ?_
              rw [or_cp_s hok hi]
              refine zz_iinc (q := 62) (i := 4) (n := 1) C (by decide +kernel) rfl rfl (nI_succ _).symm (by decide) rfl ?_
              refine zz_iinc (q := 65) (i := 5) (n := 1) C (by decide +kernel) rfl rfl (nI_succ _).symm (by decide) rfl ?_
              refine zz_goto (off := -52) (tgt := 13) C (by decide +kernel) (by decide) ?_
              -- AT 13
              refine ih (u + 1) (by omega) (by omega) (by omega) (fun j hj => ?_)
              rcases Nat.lt_succ_iff_lt_or_eq.mp hj with hj | rfl
              · exact hall j hj
              · exact zz_b_t c42
    refine zz_aload_n (q := 1) (f := 0) (i := 0) C (by decide +kernel) rfl rfl rfl ?_
    refine zz_getR (q := 4) C gf_O_11 (by decide +kernel) rfl (by first | rfl | assumption) hok.1.1 ?_
    refine zz_iload_n (q := 5) (f := 1) (i := 1) C (by decide +kernel) rfl rfl rfl ?_
    refine zz_aaload (q := 6) C 4 rfl (by decide) (by decide +kernel) rfl rfl hok.1.2.2.1 rfl (by have := hok.1.2.2.2.2.2.1; omega) (by decide) (hok.2 f hf) ?_
    refine zz_astore_n (q := 7) (f := 3) (i := 3) C (by decide +kernel) rfl rfl (by decide) rfl ?_
    refine zz_iload_n (q := 8) (f := 2) (i := 2) C (by decide +kernel) rfl rfl rfl ?_
    refine zz_istore (q := 10) (i := 4) C (by decide +kernel) rfl (by decide) rfl ?_
    refine zz_iload_n (q := 11) (f := 1) (i := 1) C (by decide +kernel) rfl rfl rfl ?_
    refine zz_istore (q := 13) (i := 5) C (by decide +kernel) rfl (by decide) rfl ?_
    -- AT 13
    have l9 := lp13 (or_s h a + 1) 0 (by omega) (by omega) (by omega) (fun j hj => absurd hj (by omega))
    rw [or_cp_0] at l9
    exact l9

/-! SegmentTrees: type -/
def ty_bad (h : zz_H) (a : Nat) (t par ln sq : Int32) : Prop := ¬ (0 ≤ t ∧ t < 8) ∨ (par ≠ -1 ∧ t_k h a par = none) ∨ (∃ k, t_k h a par = some k ∧ ¬ zz_fI h 1 2 k < 4) ∨ ¬ (1 ≤ ln ∧ ln ≤ 4) ∨ (sq ≠ -1 ∧ ¬ (0 ≤ sq ∧ sq < ln))
def ty_lv (h : zz_H) (ab : Option Nat) : Int32 := match ab with
  | none => 1
  | some b => zz_fI h 1 2 b + 1
noncomputable def ty_nw (h : zz_H) (a k : Nat) (t par ln sq u la : Int32) : zz_H := zz_sR (zz_pI (zz_pI (zz_pI (zz_pI (zz_pI (zz_pR (zz_pI (zz_new (t_h0 h a) 1 k) 1 0 k t) 1 1 k (t_k h a par)) 1 2 k (ty_lv h (t_k h a par))) 1 3 k ln) 1 4 k sq) 1 5 k (zz_b (u ≠ 0 ∧ sq ≠ -1))) 1 6 k la) (t_kd h a) t.toNatClampNeg (some k)
theorem ty_good {h : zz_H} {a : Nat} {t par ln sq : Int32} (g1 : 0 ≤ t ∧ t < 8) (g2 : ¬ (par ≠ -1 ∧ t_k h a par = none)) (g3 : ∀ k, t_k h a par = some k → zz_fI h 1 2 k < 4) (g4 : 1 ≤ ln ∧ ln ≤ 4) (g5 : ¬ (sq ≠ -1 ∧ ¬ (0 ≤ sq ∧ sq < ln))) : ¬ ty_bad h a t par ln sq := by
  rintro (z | z | ⟨k, z, y⟩ | z | z)
  · exact z g1
  · exact g2 z
  · exact y (g3 k z)
  · exact z g4
  · exact g5 z
def B_T_type : zz_TB := fun as h post postX => ∃ a t par ln sq u la, as = [zz_r 0 (some a), zz_i t, zz_i par, zz_i ln, zz_i sq, zz_i u, zz_i la] ∧ (u = 0 ∨ u = 1) ∧ (la = 0 ∨ la = 1) ∧ t_ok h a ∧ (ty_bad h a t par ln sq → postX "java/lang/IllegalArgumentException" (t_h0 h a)) ∧ (¬ ty_bad h a t par ln sq → (t_k h a t ≠ none → postX "java/lang/IllegalStateException" (t_h0 h a)) ∧ (t_k h a t = none → (zz_fI h 0 7 a ≠ 0 → postX "java/lang/IllegalStateException" (t_h0 h a)) ∧ (zz_fI h 0 7 a = 0 → ∀ k, zz_tg h k = none → post none (ty_nw h a k t par ln sq u la))))
set_option maxRecDepth 100000 in
set_option maxHeartbeats 4000000 in
theorem m_T_type (l : Launch) : zz_Met l y_T_type w_T_type { frames := 7, cells := 3, slots := 20, locals := 110 } (fun as h post => B_T_type as h post (fun _ _ => False)) := by
  refine zz_ofZ (by decide) (fun as h post hT => ?_) ?_
  · obtain ⟨a, t, par, ln, sq, u, la, rfl, hu, hla, hok, hpX, hp⟩ := hT
    exact ⟨by simp [zz_cat], by simp⟩
  · intro D DA h as post hT p e s m args below meth c Q C hr hlk hnm hQ
    obtain ⟨a, t, par, ln, sq, u, la, rfl, hu, hla, hok, hpX, hp⟩ := hT
    have lp123 : ¬ ty_bad h a t par ln sq → zz_Z p l e { frames := 7, cells := 3, slots := 20, locals := 110 } s m args below meth c Q D DA (zz_A h s.heap.size) h 8 123 [some (zz_r 0 (some a)), some (zz_i t), some (zz_i par), some (zz_i ln), some (zz_i sq), some (zz_i u), some (zz_i la), some (zz_r 1 (t_k h a par))] [] (t_h0 h a) 0 0 := by
      intro hb
      have g1 : 0 ≤ t ∧ t < 8 := Classical.byContradiction (fun z => hb (Or.inl z))
      have h9 := nI_in9 nI_8 (by decide) (Int32.not_lt.mpr g1.1) g1.2
      have ek : t_k h a t = zz_aR h (t_kd h a) t.toNatClampNeg := if_pos g1
      refine zz_know (fun hty _ hTL _ => ?_)
      have hTL9 := hTL 7 _ rfl
      refine zz_aload_n (q := 124) (f := 0) (i := 0) C (by decide +kernel) rfl rfl rfl ?_
      refine zz_getR (q := 127) C gf_T_11 (by decide +kernel) rfl (by first | rfl | assumption) hok.1 ?_
      refine zz_iload_n (q := 128) (f := 1) (i := 1) C (by decide +kernel) rfl rfl rfl ?_
      refine zz_aaload (q := 129) C 3 rfl (by decide) (by decide +kernel) rfl rfl hok.2.2.2.2.2.1 h9.2 h9.1 (by decide) rfl ?_
      refine zz_ifnull (off := 13) (tgt := 142) (q := 132) C (by decide +kernel) (by decide) rfl (fun c129 => ?_) (fun a129 c129 => ?_)
      · refine zz_aload_n (q := 143) (f := 0) (i := 0) C (by decide +kernel) rfl rfl rfl ?_
        rcases Classical.em (zz_fI h 0 7 a ≠ 0) with tc143 | tc143
        · exact False.elim (((hp hb).2 (ek.trans c129)).1 tc143)
        refine zz_callV (q := 146) C (m_T_refuseAfterInsert l) cv_T_72 (by decide +kernel) rfl rfl rfl (by first | rfl | assumption) (by decide) (by decide) (Nat.le_of_ble_eq_true rfl) ⟨_, rfl, fun z => absurd z tc143, fun hz9 => ?_⟩
        refine zz_aload_n (q := 147) (f := 0) (i := 0) C (by decide +kernel) rfl rfl rfl ?_
        refine zz_getR (q := 150) C gf_T_11 (by decide +kernel) rfl (by first | rfl | assumption) hok.1 ?_
        refine zz_iload_n (q := 151) (f := 1) (i := 1) C (by decide +kernel) rfl rfl rfl ?_
        refine zz_newO (q := 154) (ci := 1) C rfl kl_T_9 ni_K nj_K (by decide +kernel) rfl (by decide) (by decide) (fun a151 n151 => ?_)
        refine zz_dup (q := 155) C (by decide +kernel) rfl rfl ?_
        refine zz_iload_n (q := 156) (f := 1) (i := 1) C (by decide +kernel) rfl rfl rfl ?_
        refine zz_aload (q := 158) (i := 7) C (by decide +kernel) rfl rfl ?_
        refine zz_iload_n (q := 159) (f := 3) (i := 3) C (by decide +kernel) rfl rfl rfl ?_
        refine zz_iload (q := 161) (i := 4) C (by decide +kernel) rfl rfl ?_
        refine zz_iload (q := 163) (i := 5) C (by decide +kernel) rfl rfl ?_
        refine zz_iload (q := 165) (i := 6) C (by decide +kernel) rfl rfl ?_
        refine zz_callI (q := 168) C (m_K_init l) ci_T_75 (by decide +kernel) rfl rfl rfl (by first | rfl | assumption) (by decide) (by decide) (Nat.le_of_ble_eq_true rfl) ⟨_, _, _, _, _, _, _, ty_lv h (t_k h a par), rfl, hu, hla, fun z => by rw [z]; rfl, fun b z => ?_, ?_⟩
        · obtain ⟨nb, hnb⟩ := hTL9 b z
          have hne : b ≠ a151 := zz_tg_ne (h := t_h0 h a) hnb n151
          refine ⟨hne, ?_⟩
          rw [z]
          show zz_fI h 1 2 b + 1 = (if 1 = 1 ∧ b = a151 then 0 else zz_fI h 1 2 b) + 1
          rw [if_neg (fun w => hne w.2)]
        refine zz_aastore (q := 169) C (ci := 1) 3 rfl rfl (by decide +kernel) rfl rfl (zz_tg_oldO (h := t_h0 h a) hok.2.2.2.2.2.1 n151) h9.2 h9.1 (by decide) ?_
        refine zz_vret C hr hlk (by decide +kernel) hQ (by decide) (by decide) ?_
        exact ((hp hb).2 (ek.trans c129)).2 hz9 a151 n151
      · exact False.elim ((hp hb).1 (fun z => absurd (c129.symm.trans (ek.symm.trans z)) (Option.some_ne_none _)))
    have lp76 : (0 ≤ t ∧ t < 8) → ¬ (par ≠ -1 ∧ t_k h a par = none) → (∀ k, t_k h a par = some k → zz_fI h 1 2 k < 4) → zz_Z p l e { frames := 7, cells := 3, slots := 20, locals := 110 } s m args below meth c Q D DA (zz_A h s.heap.size) h 8 76 [some (zz_r 0 (some a)), some (zz_i t), some (zz_i par), some (zz_i ln), some (zz_i sq), some (zz_i u), some (zz_i la), some (zz_r 1 (t_k h a par))] [] (t_h0 h a) 0 0 := by
      intro g1 g2 g3
      refine zz_iload_n (q := 77) (f := 3) (i := 3) C (by decide +kernel) rfl rfl rfl ?_
      refine zz_iconst (q := 78) (n := 1) (x := 1) C (by decide +kernel) rfl (by decide +kernel) ?_
      refine zz_icmp_lt (off := 8) (tgt := 86) (q := 81) C (by decide +kernel) (by decide) rfl (fun c78 => ?_) (fun c78 => ?_)
      · exact False.elim (hpX (Or.inr (Or.inr (Or.inr (Or.inl (fun z => absurd c78 (Int32.not_lt.mpr z.1)))))))
      · refine zz_iload_n (q := 82) (f := 3) (i := 3) C (by decide +kernel) rfl rfl rfl ?_
        refine zz_iconst (q := 83) (n := 4) (x := 4) C (by decide +kernel) rfl (by decide +kernel) ?_
        refine zz_icmp_le (off := 13) (tgt := 96) (q := 86) C (by decide +kernel) (by decide) rfl (fun c83 => ?_) (fun c83 => ?_)
        · refine zz_iload (q := 98) (i := 4) C (by decide +kernel) rfl rfl ?_
          refine zz_iconst (q := 99) (n := -1) (x := (-1)) C (by decide +kernel) rfl (by decide +kernel) ?_
          refine zz_icmp_eq (off := 24) (tgt := 123) (q := 102) C (by decide +kernel) (by decide) rfl (fun c99 => ?_) (fun c99 => ?_)
          · -- AT 123
            first
              | exact lp123 (ty_good g1 g2 g3 ⟨Int32.not_lt.mp c78, c83⟩ (fun z => z.1 c99))
              | exact lp123 (ty_good g1 g2 g3 ⟨Int32.not_lt.mp c78, c83⟩ (fun z => z.2 ⟨Int32.not_lt.mp c104, c110⟩))
          · refine zz_iload (q := 104) (i := 4) C (by decide +kernel) rfl rfl ?_
            refine zz_if_lt (off := 9) (tgt := 113) (q := 107) C (by decide +kernel) (by decide) rfl (fun c104 => ?_) (fun c104 => ?_)
            · exact False.elim (hpX (Or.inr (Or.inr (Or.inr (Or.inr ⟨c99, fun z => absurd c104 (Int32.not_lt.mpr z.1)⟩)))))
            · refine zz_iload (q := 109) (i := 4) C (by decide +kernel) rfl rfl ?_
              refine zz_iload_n (q := 110) (f := 3) (i := 3) C (by decide +kernel) rfl rfl rfl ?_
              refine zz_icmp_lt (off := 13) (tgt := 123) (q := 113) C (by decide +kernel) (by decide) rfl (fun c110 => ?_) (fun c110 => ?_)
              · -- AT 123
                first
                  | exact lp123 (ty_good g1 g2 g3 ⟨Int32.not_lt.mp c78, c83⟩ (fun z => z.1 c99))
                  | exact lp123 (ty_good g1 g2 g3 ⟨Int32.not_lt.mp c78, c83⟩ (fun z => z.2 ⟨Int32.not_lt.mp c104, c110⟩))
              · exact False.elim (hpX (Or.inr (Or.inr (Or.inr (Or.inr ⟨c99, fun z => absurd z.2 c110⟩)))))
        · exact False.elim (hpX (Or.inr (Or.inr (Or.inr (Or.inl (fun z => absurd z.2 c83))))))
    refine zz_aload_n (q := 1) (f := 0) (i := 0) C (by decide +kernel) rfl rfl rfl ?_
    refine zz_null (q := 2) C 2 (by decide +kernel) rfl ?_
    refine zz_putR (q := 5) C gf_T_40 (fun h => by cases h) (by decide +kernel) rfl (by first | rfl | assumption) ?_
    show zz_Z p l e _ s m args below meth c Q D DA (zz_A h s.heap.size) h _ _ _ _ (t_h0 h a) 0 0
    have hok0 : t_ok (t_h0 h a) a := hok
    refine zz_iload_n (q := 6) (f := 1) (i := 1) C (by decide +kernel) rfl rfl rfl ?_
    refine zz_if_lt (off := 9) (tgt := 15) (q := 9) C (by decide +kernel) (by decide) rfl (fun c6 => ?_) (fun c6 => ?_)
    · exact False.elim (hpX (Or.inl (fun z => absurd c6 (Int32.not_lt.mpr z.1))))
    · refine zz_iload_n (q := 10) (f := 1) (i := 1) C (by decide +kernel) rfl rfl rfl ?_
      refine zz_bipush (q := 12) (n := 8) (x := 8) C (by decide +kernel) rfl (by decide +kernel) ?_
      refine zz_icmp_lt (off := 13) (tgt := 25) (q := 15) C (by decide +kernel) (by decide) rfl (fun c12 => ?_) (fun c12 => ?_)
      · refine zz_aload_n (q := 26) (f := 0) (i := 0) C (by decide +kernel) rfl rfl rfl ?_
        refine zz_iload_n (q := 27) (f := 2) (i := 2) C (by decide +kernel) rfl rfl rfl ?_
        refine zz_callV (q := 30) C (m_T_kindOf l) cv_T_51 (by decide +kernel) rfl rfl rfl (by first | rfl | assumption) (by decide) (by decide) (Nat.le_of_ble_eq_true rfl) ⟨_, _, rfl, hok0, ?_⟩
        show zz_Z p l e _ s m args below meth c Q D DA (zz_A h s.heap.size) h _ _ _ (zz_r 1 (t_k h a par) :: []) (t_h0 h a) 0 0
        refine zz_astore (q := 32) (i := 7) C (by decide +kernel) rfl (by decide) rfl ?_
        refine zz_iload_n (q := 33) (f := 2) (i := 2) C (by decide +kernel) rfl rfl rfl ?_
        refine zz_iconst (q := 34) (n := -1) (x := (-1)) C (by decide +kernel) rfl (by decide +kernel) ?_
        refine zz_icmp_eq (off := 18) (tgt := 52) (q := 37) C (by decide +kernel) (by decide) rfl (fun c34 => ?_) (fun c34 => ?_)
        · refine zz_aload (q := 54) (i := 7) C (by decide +kernel) rfl rfl ?_
          refine zz_ifnull (off := 22) (tgt := 76) (q := 57) C (by decide +kernel) (by decide) rfl (fun c54 => ?_) (fun a54 c54 => ?_)
          · -- AT 76
            first
              | exact lp76 ⟨Int32.not_lt.mp c6, c12⟩ (fun z => z.1 c34) (fun k9 z => absurd (z.symm.trans c54) (Option.some_ne_none k9))
              | exact lp76 ⟨Int32.not_lt.mp c6, c12⟩ (fun z => z.1 c34) (fun k9 z => (Option.some.inj (c54.symm.trans z)) ▸ c63)
              | exact lp76 ⟨Int32.not_lt.mp c6, c12⟩ (fun z => absurd (c39.symm.trans z.2) (Option.some_ne_none _)) (fun k9 z => absurd (z.symm.trans c54) (Option.some_ne_none k9))
              | exact lp76 ⟨Int32.not_lt.mp c6, c12⟩ (fun z => absurd (c39.symm.trans z.2) (Option.some_ne_none _)) (fun k9 z => (Option.some.inj (c54.symm.trans z)) ▸ c63)
          · refine zz_aload (q := 59) (i := 7) C (by decide +kernel) rfl rfl ?_
            refine zz_getI (q := 62) C gf_T_57 (by decide +kernel) rfl (by first | rfl | assumption) rfl ?_
            refine zz_iconst (q := 63) (n := 4) (x := 4) C (by decide +kernel) rfl (by decide +kernel) ?_
            refine zz_icmp_lt (off := 13) (tgt := 76) (q := 66) C (by decide +kernel) (by decide) rfl (fun c63 => ?_) (fun c63 => ?_)
            · -- AT 76
              first
                | exact lp76 ⟨Int32.not_lt.mp c6, c12⟩ (fun z => z.1 c34) (fun k9 z => absurd (z.symm.trans c54) (Option.some_ne_none k9))
                | exact lp76 ⟨Int32.not_lt.mp c6, c12⟩ (fun z => z.1 c34) (fun k9 z => (Option.some.inj (c54.symm.trans z)) ▸ c63)
                | exact lp76 ⟨Int32.not_lt.mp c6, c12⟩ (fun z => absurd (c39.symm.trans z.2) (Option.some_ne_none _)) (fun k9 z => absurd (z.symm.trans c54) (Option.some_ne_none k9))
                | exact lp76 ⟨Int32.not_lt.mp c6, c12⟩ (fun z => absurd (c39.symm.trans z.2) (Option.some_ne_none _)) (fun k9 z => (Option.some.inj (c54.symm.trans z)) ▸ c63)
            · exact False.elim (hpX (Or.inr (Or.inr (Or.inl ⟨a54, c54, c63⟩))))
        · refine zz_aload (q := 39) (i := 7) C (by decide +kernel) rfl rfl ?_
          refine zz_ifnonnull (off := 13) (tgt := 52) (q := 42) C (by decide +kernel) (by decide) rfl (fun a39 c39 => ?_) (fun c39 => ?_)
          · refine zz_aload (q := 54) (i := 7) C (by decide +kernel) rfl rfl ?_
            refine zz_ifnull (off := 22) (tgt := 76) (q := 57) C (by decide +kernel) (by decide) rfl (fun c54 => ?_) (fun a54 c54 => ?_)
            · -- AT 76
              first
                | exact lp76 ⟨Int32.not_lt.mp c6, c12⟩ (fun z => z.1 c34) (fun k9 z => absurd (z.symm.trans c54) (Option.some_ne_none k9))
                | exact lp76 ⟨Int32.not_lt.mp c6, c12⟩ (fun z => z.1 c34) (fun k9 z => (Option.some.inj (c54.symm.trans z)) ▸ c63)
                | exact lp76 ⟨Int32.not_lt.mp c6, c12⟩ (fun z => absurd (c39.symm.trans z.2) (Option.some_ne_none _)) (fun k9 z => absurd (z.symm.trans c54) (Option.some_ne_none k9))
                | exact lp76 ⟨Int32.not_lt.mp c6, c12⟩ (fun z => absurd (c39.symm.trans z.2) (Option.some_ne_none _)) (fun k9 z => (Option.some.inj (c54.symm.trans z)) ▸ c63)
            · refine zz_aload (q := 59) (i := 7) C (by decide +kernel) rfl rfl ?_
              refine zz_getI (q := 62) C gf_T_57 (by decide +kernel) rfl (by first | rfl | assumption) rfl ?_
              refine zz_iconst (q := 63) (n := 4) (x := 4) C (by decide +kernel) rfl (by decide +kernel) ?_
              refine zz_icmp_lt (off := 13) (tgt := 76) (q := 66) C (by decide +kernel) (by decide) rfl (fun c63 => ?_) (fun c63 => ?_)
              · -- AT 76
                first
                  | exact lp76 ⟨Int32.not_lt.mp c6, c12⟩ (fun z => z.1 c34) (fun k9 z => absurd (z.symm.trans c54) (Option.some_ne_none k9))
                  | exact lp76 ⟨Int32.not_lt.mp c6, c12⟩ (fun z => z.1 c34) (fun k9 z => (Option.some.inj (c54.symm.trans z)) ▸ c63)
                  | exact lp76 ⟨Int32.not_lt.mp c6, c12⟩ (fun z => absurd (c39.symm.trans z.2) (Option.some_ne_none _)) (fun k9 z => absurd (z.symm.trans c54) (Option.some_ne_none k9))
                  | exact lp76 ⟨Int32.not_lt.mp c6, c12⟩ (fun z => absurd (c39.symm.trans z.2) (Option.some_ne_none _)) (fun k9 z => (Option.some.inj (c54.symm.trans z)) ▸ c63)
              · exact False.elim (hpX (Or.inr (Or.inr (Or.inl ⟨a54, c54, c63⟩))))
          · exact False.elim (hpX (Or.inr (Or.inl ⟨c34, c39⟩)))
      · exact False.elim (hpX (Or.inl (fun z => absurd z.2 c12)))
set_option maxRecDepth 100000 in
set_option maxHeartbeats 4000000 in
theorem x_T_type (l : Launch) (hl : l.stackTraces = false) : zz_MetX l y_T_type w_T_type { frames := 7, cells := 3, slots := 20, locals := 110 } (fun as h postX => B_T_type as h (fun _ _ => False) postX) := by
  refine zz_ofX hl (by decide) (fun as h postX hT => ?_) ?_
  · obtain ⟨a, t, par, ln, sq, u, la, rfl, hu, hla, hok, hpX, hp⟩ := hT
    exact ⟨by simp [zz_cat], by simp⟩
  · intro D DA h as postX hT p e s m args below meth c Q C hx hnm hQ
    obtain ⟨a, t, par, ln, sq, u, la, rfl, hu, hla, hok, hpX, hp⟩ := hT
    have lp123 : ¬ ty_bad h a t par ln sq → zz_Z p l e { frames := 7, cells := 3, slots := 20, locals := 110 } s m args below meth c Q D DA (zz_A h s.heap.size) h 8 123 [some (zz_r 0 (some a)), some (zz_i t), some (zz_i par), some (zz_i ln), some (zz_i sq), some (zz_i u), some (zz_i la), some (zz_r 1 (t_k h a par))] [] (t_h0 h a) 0 0 := by
      intro hb
      have g1 : 0 ≤ t ∧ t < 8 := Classical.byContradiction (fun z => hb (Or.inl z))
      have h9 := nI_in9 nI_8 (by decide) (Int32.not_lt.mpr g1.1) g1.2
      have ek : t_k h a t = zz_aR h (t_kd h a) t.toNatClampNeg := if_pos g1
      refine zz_know (fun hty _ hTL _ => ?_)
      have hTL9 := hTL 7 _ rfl
      refine zz_aload_n (q := 124) (f := 0) (i := 0) C (by decide +kernel) rfl rfl rfl ?_
      refine zz_getR (q := 127) C gf_T_11 (by decide +kernel) rfl (by first | rfl | assumption) hok.1 ?_
      refine zz_iload_n (q := 128) (f := 1) (i := 1) C (by decide +kernel) rfl rfl rfl ?_
      refine zz_aaload (q := 129) C 3 rfl (by decide) (by decide +kernel) rfl rfl hok.2.2.2.2.2.1 h9.2 h9.1 (by decide) rfl ?_
      refine zz_ifnull (off := 13) (tgt := 142) (q := 132) C (by decide +kernel) (by decide) rfl (fun c129 => ?_) (fun a129 c129 => ?_)
      · refine zz_aload_n (q := 143) (f := 0) (i := 0) C (by decide +kernel) rfl rfl rfl ?_
        rcases Classical.em (zz_fI h 0 7 a ≠ 0) with tc143 | tc143
        · exact zz_callVX C hx (x_T_refuseAfterInsert l hl) cv_T_72 (by decide +kernel) rfl rfl (by first | rfl | assumption) (by decide) (by decide) (Nat.le_of_ble_eq_true rfl) hQ (by decide) (by decide) ⟨_, rfl, fun _ => (((hp hb).2 (ek.trans c129)).1 tc143), fun z => absurd z tc143⟩
        refine zz_callV (q := 146) C (m_T_refuseAfterInsert l) cv_T_72 (by decide +kernel) rfl rfl rfl (by first | rfl | assumption) (by decide) (by decide) (Nat.le_of_ble_eq_true rfl) ⟨_, rfl, fun z => absurd z tc143, fun hz9 => ?_⟩
        refine zz_aload_n (q := 147) (f := 0) (i := 0) C (by decide +kernel) rfl rfl rfl ?_
        refine zz_getR (q := 150) C gf_T_11 (by decide +kernel) rfl (by first | rfl | assumption) hok.1 ?_
        refine zz_iload_n (q := 151) (f := 1) (i := 1) C (by decide +kernel) rfl rfl rfl ?_
        refine zz_newO (q := 154) (ci := 1) C rfl kl_T_9 ni_K nj_K (by decide +kernel) rfl (by decide) (by decide) (fun a151 n151 => ?_)
        refine zz_dup (q := 155) C (by decide +kernel) rfl rfl ?_
        refine zz_iload_n (q := 156) (f := 1) (i := 1) C (by decide +kernel) rfl rfl rfl ?_
        refine zz_aload (q := 158) (i := 7) C (by decide +kernel) rfl rfl ?_
        refine zz_iload_n (q := 159) (f := 3) (i := 3) C (by decide +kernel) rfl rfl rfl ?_
        refine zz_iload (q := 161) (i := 4) C (by decide +kernel) rfl rfl ?_
        refine zz_iload (q := 163) (i := 5) C (by decide +kernel) rfl rfl ?_
        refine zz_iload (q := 165) (i := 6) C (by decide +kernel) rfl rfl ?_
        refine zz_callI (q := 168) C (m_K_init l) ci_T_75 (by decide +kernel) rfl rfl rfl (by first | rfl | assumption) (by decide) (by decide) (Nat.le_of_ble_eq_true rfl) ⟨_, _, _, _, _, _, _, ty_lv h (t_k h a par), rfl, hu, hla, fun z => by rw [z]; rfl, fun b z => ?_, ?_⟩
        · obtain ⟨nb, hnb⟩ := hTL9 b z
          have hne : b ≠ a151 := zz_tg_ne (h := t_h0 h a) hnb n151
          refine ⟨hne, ?_⟩
          rw [z]
          show zz_fI h 1 2 b + 1 = (if 1 = 1 ∧ b = a151 then 0 else zz_fI h 1 2 b) + 1
          rw [if_neg (fun w => hne w.2)]
        refine zz_aastore (q := 169) C (ci := 1) 3 rfl rfl (by decide +kernel) rfl rfl (zz_tg_oldO (h := t_h0 h a) hok.2.2.2.2.2.1 n151) h9.2 h9.1 (by decide) ?_
        exfalso
        exact ((hp hb).2 (ek.trans c129)).2 hz9 a151 n151
      · exact zz_throw (q := 138) (i0 := 67) (i1 := 69) (tx := "the type is declared") C hx xx_ownS (by decide +kernel) (zz_in (i := 364) (by decide +kernel) (by decide +kernel)) (zz_in (i := 365) (by decide +kernel) (by decide +kernel)) (zz_in (i := 45) (by decide +kernel) (by decide +kernel)) (by decide +kernel) (by decide +kernel) (by decide +kernel) (Or.inl ⟨by decide +kernel, rfl⟩) (by decide +kernel) (by decide +kernel) hQ (by decide) (by decide) (by decide) (by decide) (by decide) (by decide) ((hp hb).1 (fun z => absurd (c129.symm.trans (ek.symm.trans z)) (Option.some_ne_none _)))
    have lp76 : (0 ≤ t ∧ t < 8) → ¬ (par ≠ -1 ∧ t_k h a par = none) → (∀ k, t_k h a par = some k → zz_fI h 1 2 k < 4) → zz_Z p l e { frames := 7, cells := 3, slots := 20, locals := 110 } s m args below meth c Q D DA (zz_A h s.heap.size) h 8 76 [some (zz_r 0 (some a)), some (zz_i t), some (zz_i par), some (zz_i ln), some (zz_i sq), some (zz_i u), some (zz_i la), some (zz_r 1 (t_k h a par))] [] (t_h0 h a) 0 0 := by
      intro g1 g2 g3
      refine zz_iload_n (q := 77) (f := 3) (i := 3) C (by decide +kernel) rfl rfl rfl ?_
      refine zz_iconst (q := 78) (n := 1) (x := 1) C (by decide +kernel) rfl (by decide +kernel) ?_
      refine zz_icmp_lt (off := 8) (tgt := 86) (q := 81) C (by decide +kernel) (by decide) rfl (fun c78 => ?_) (fun c78 => ?_)
      · exact zz_throw (q := 92) (i0 := 44) (i1 := 63) (tx := "the length is out of bounds") C hx xx_ownA (by decide +kernel) (zz_in (i := 288) (by decide +kernel) (by decide +kernel)) (zz_in (i := 289) (by decide +kernel) (by decide +kernel)) (zz_in (i := 44) (by decide +kernel) (by decide +kernel)) (by decide +kernel) (by decide +kernel) (by decide +kernel) (Or.inl ⟨by decide +kernel, rfl⟩) (by decide +kernel) (by decide +kernel) hQ (by decide) (by decide) (by decide) (by decide) (by decide) (by decide) (hpX (Or.inr (Or.inr (Or.inr (Or.inl (fun z => absurd c78 (Int32.not_lt.mpr z.1)))))))
      · refine zz_iload_n (q := 82) (f := 3) (i := 3) C (by decide +kernel) rfl rfl rfl ?_
        refine zz_iconst (q := 83) (n := 4) (x := 4) C (by decide +kernel) rfl (by decide +kernel) ?_
        refine zz_icmp_le (off := 13) (tgt := 96) (q := 86) C (by decide +kernel) (by decide) rfl (fun c83 => ?_) (fun c83 => ?_)
        · refine zz_iload (q := 98) (i := 4) C (by decide +kernel) rfl rfl ?_
          refine zz_iconst (q := 99) (n := -1) (x := (-1)) C (by decide +kernel) rfl (by decide +kernel) ?_
          refine zz_icmp_eq (off := 24) (tgt := 123) (q := 102) C (by decide +kernel) (by decide) rfl (fun c99 => ?_) (fun c99 => ?_)
          · -- AT 123
            first
              | exact lp123 (ty_good g1 g2 g3 ⟨Int32.not_lt.mp c78, c83⟩ (fun z => z.1 c99))
              | exact lp123 (ty_good g1 g2 g3 ⟨Int32.not_lt.mp c78, c83⟩ (fun z => z.2 ⟨Int32.not_lt.mp c104, c110⟩))
          · refine zz_iload (q := 104) (i := 4) C (by decide +kernel) rfl rfl ?_
            refine zz_if_lt (off := 9) (tgt := 113) (q := 107) C (by decide +kernel) (by decide) rfl (fun c104 => ?_) (fun c104 => ?_)
            · exact zz_throw (q := 119) (i0 := 44) (i1 := 65) (tx := "the sequence is out of bounds") C hx xx_ownA (by decide +kernel) (zz_in (i := 288) (by decide +kernel) (by decide +kernel)) (zz_in (i := 289) (by decide +kernel) (by decide +kernel)) (zz_in (i := 44) (by decide +kernel) (by decide +kernel)) (by decide +kernel) (by decide +kernel) (by decide +kernel) (Or.inl ⟨by decide +kernel, rfl⟩) (by decide +kernel) (by decide +kernel) hQ (by decide) (by decide) (by decide) (by decide) (by decide) (by decide) (hpX (Or.inr (Or.inr (Or.inr (Or.inr ⟨c99, fun z => absurd c104 (Int32.not_lt.mpr z.1)⟩)))))
            · refine zz_iload (q := 109) (i := 4) C (by decide +kernel) rfl rfl ?_
              refine zz_iload_n (q := 110) (f := 3) (i := 3) C (by decide +kernel) rfl rfl rfl ?_
              refine zz_icmp_lt (off := 13) (tgt := 123) (q := 113) C (by decide +kernel) (by decide) rfl (fun c110 => ?_) (fun c110 => ?_)
              · -- AT 123
                first
                  | exact lp123 (ty_good g1 g2 g3 ⟨Int32.not_lt.mp c78, c83⟩ (fun z => z.1 c99))
                  | exact lp123 (ty_good g1 g2 g3 ⟨Int32.not_lt.mp c78, c83⟩ (fun z => z.2 ⟨Int32.not_lt.mp c104, c110⟩))
              · exact zz_throw (q := 119) (i0 := 44) (i1 := 65) (tx := "the sequence is out of bounds") C hx xx_ownA (by decide +kernel) (zz_in (i := 288) (by decide +kernel) (by decide +kernel)) (zz_in (i := 289) (by decide +kernel) (by decide +kernel)) (zz_in (i := 44) (by decide +kernel) (by decide +kernel)) (by decide +kernel) (by decide +kernel) (by decide +kernel) (Or.inl ⟨by decide +kernel, rfl⟩) (by decide +kernel) (by decide +kernel) hQ (by decide) (by decide) (by decide) (by decide) (by decide) (by decide) (hpX (Or.inr (Or.inr (Or.inr (Or.inr ⟨c99, fun z => absurd z.2 c110⟩)))))
        · exact zz_throw (q := 92) (i0 := 44) (i1 := 63) (tx := "the length is out of bounds") C hx xx_ownA (by decide +kernel) (zz_in (i := 288) (by decide +kernel) (by decide +kernel)) (zz_in (i := 289) (by decide +kernel) (by decide +kernel)) (zz_in (i := 44) (by decide +kernel) (by decide +kernel)) (by decide +kernel) (by decide +kernel) (by decide +kernel) (Or.inl ⟨by decide +kernel, rfl⟩) (by decide +kernel) (by decide +kernel) hQ (by decide) (by decide) (by decide) (by decide) (by decide) (by decide) (hpX (Or.inr (Or.inr (Or.inr (Or.inl (fun z => absurd z.2 c83))))))
    refine zz_aload_n (q := 1) (f := 0) (i := 0) C (by decide +kernel) rfl rfl rfl ?_
    refine zz_null (q := 2) C 2 (by decide +kernel) rfl ?_
    refine zz_putR (q := 5) C gf_T_40 (fun h => by cases h) (by decide +kernel) rfl (by first | rfl | assumption) ?_
    show zz_Z p l e _ s m args below meth c Q D DA (zz_A h s.heap.size) h _ _ _ _ (t_h0 h a) 0 0
    have hok0 : t_ok (t_h0 h a) a := hok
    refine zz_iload_n (q := 6) (f := 1) (i := 1) C (by decide +kernel) rfl rfl rfl ?_
    refine zz_if_lt (off := 9) (tgt := 15) (q := 9) C (by decide +kernel) (by decide) rfl (fun c6 => ?_) (fun c6 => ?_)
    · exact zz_throw (q := 21) (i0 := 44) (i1 := 46) (tx := "there is no such type") C hx xx_ownA (by decide +kernel) (zz_in (i := 288) (by decide +kernel) (by decide +kernel)) (zz_in (i := 289) (by decide +kernel) (by decide +kernel)) (zz_in (i := 44) (by decide +kernel) (by decide +kernel)) (by decide +kernel) (by decide +kernel) (by decide +kernel) (Or.inl ⟨by decide +kernel, rfl⟩) (by decide +kernel) (by decide +kernel) hQ (by decide) (by decide) (by decide) (by decide) (by decide) (by decide) (hpX (Or.inl (fun z => absurd c6 (Int32.not_lt.mpr z.1))))
    · refine zz_iload_n (q := 10) (f := 1) (i := 1) C (by decide +kernel) rfl rfl rfl ?_
      refine zz_bipush (q := 12) (n := 8) (x := 8) C (by decide +kernel) rfl (by decide +kernel) ?_
      refine zz_icmp_lt (off := 13) (tgt := 25) (q := 15) C (by decide +kernel) (by decide) rfl (fun c12 => ?_) (fun c12 => ?_)
      · refine zz_aload_n (q := 26) (f := 0) (i := 0) C (by decide +kernel) rfl rfl rfl ?_
        refine zz_iload_n (q := 27) (f := 2) (i := 2) C (by decide +kernel) rfl rfl rfl ?_
        refine zz_callV (q := 30) C (m_T_kindOf l) cv_T_51 (by decide +kernel) rfl rfl rfl (by first | rfl | assumption) (by decide) (by decide) (Nat.le_of_ble_eq_true rfl) ⟨_, _, rfl, hok0, ?_⟩
        show zz_Z p l e _ s m args below meth c Q D DA (zz_A h s.heap.size) h _ _ _ (zz_r 1 (t_k h a par) :: []) (t_h0 h a) 0 0
        refine zz_astore (q := 32) (i := 7) C (by decide +kernel) rfl (by decide) rfl ?_
        refine zz_iload_n (q := 33) (f := 2) (i := 2) C (by decide +kernel) rfl rfl rfl ?_
        refine zz_iconst (q := 34) (n := -1) (x := (-1)) C (by decide +kernel) rfl (by decide +kernel) ?_
        refine zz_icmp_eq (off := 18) (tgt := 52) (q := 37) C (by decide +kernel) (by decide) rfl (fun c34 => ?_) (fun c34 => ?_)
        · refine zz_aload (q := 54) (i := 7) C (by decide +kernel) rfl rfl ?_
          refine zz_ifnull (off := 22) (tgt := 76) (q := 57) C (by decide +kernel) (by decide) rfl (fun c54 => ?_) (fun a54 c54 => ?_)
          · -- AT 76
            first
              | exact lp76 ⟨Int32.not_lt.mp c6, c12⟩ (fun z => z.1 c34) (fun k9 z => absurd (z.symm.trans c54) (Option.some_ne_none k9))
              | exact lp76 ⟨Int32.not_lt.mp c6, c12⟩ (fun z => z.1 c34) (fun k9 z => (Option.some.inj (c54.symm.trans z)) ▸ c63)
              | exact lp76 ⟨Int32.not_lt.mp c6, c12⟩ (fun z => absurd (c39.symm.trans z.2) (Option.some_ne_none _)) (fun k9 z => absurd (z.symm.trans c54) (Option.some_ne_none k9))
              | exact lp76 ⟨Int32.not_lt.mp c6, c12⟩ (fun z => absurd (c39.symm.trans z.2) (Option.some_ne_none _)) (fun k9 z => (Option.some.inj (c54.symm.trans z)) ▸ c63)
          · refine zz_aload (q := 59) (i := 7) C (by decide +kernel) rfl rfl ?_
            refine zz_getI (q := 62) C gf_T_57 (by decide +kernel) rfl (by first | rfl | assumption) rfl ?_
            refine zz_iconst (q := 63) (n := 4) (x := 4) C (by decide +kernel) rfl (by decide +kernel) ?_
            refine zz_icmp_lt (off := 13) (tgt := 76) (q := 66) C (by decide +kernel) (by decide) rfl (fun c63 => ?_) (fun c63 => ?_)
            · -- AT 76
              first
                | exact lp76 ⟨Int32.not_lt.mp c6, c12⟩ (fun z => z.1 c34) (fun k9 z => absurd (z.symm.trans c54) (Option.some_ne_none k9))
                | exact lp76 ⟨Int32.not_lt.mp c6, c12⟩ (fun z => z.1 c34) (fun k9 z => (Option.some.inj (c54.symm.trans z)) ▸ c63)
                | exact lp76 ⟨Int32.not_lt.mp c6, c12⟩ (fun z => absurd (c39.symm.trans z.2) (Option.some_ne_none _)) (fun k9 z => absurd (z.symm.trans c54) (Option.some_ne_none k9))
                | exact lp76 ⟨Int32.not_lt.mp c6, c12⟩ (fun z => absurd (c39.symm.trans z.2) (Option.some_ne_none _)) (fun k9 z => (Option.some.inj (c54.symm.trans z)) ▸ c63)
            · exact zz_throw (q := 72) (i0 := 44) (i1 := 61) (tx := "the level is too low") C hx xx_ownA (by decide +kernel) (zz_in (i := 288) (by decide +kernel) (by decide +kernel)) (zz_in (i := 289) (by decide +kernel) (by decide +kernel)) (zz_in (i := 44) (by decide +kernel) (by decide +kernel)) (by decide +kernel) (by decide +kernel) (by decide +kernel) (Or.inl ⟨by decide +kernel, rfl⟩) (by decide +kernel) (by decide +kernel) hQ (by decide) (by decide) (by decide) (by decide) (by decide) (by decide) (hpX (Or.inr (Or.inr (Or.inl ⟨a54, c54, c63⟩))))
        · refine zz_aload (q := 39) (i := 7) C (by decide +kernel) rfl rfl ?_
          refine zz_ifnonnull (off := 13) (tgt := 52) (q := 42) C (by decide +kernel) (by decide) rfl (fun a39 c39 => ?_) (fun c39 => ?_)
          · refine zz_aload (q := 54) (i := 7) C (by decide +kernel) rfl rfl ?_
            refine zz_ifnull (off := 22) (tgt := 76) (q := 57) C (by decide +kernel) (by decide) rfl (fun c54 => ?_) (fun a54 c54 => ?_)
            · -- AT 76
              first
                | exact lp76 ⟨Int32.not_lt.mp c6, c12⟩ (fun z => z.1 c34) (fun k9 z => absurd (z.symm.trans c54) (Option.some_ne_none k9))
                | exact lp76 ⟨Int32.not_lt.mp c6, c12⟩ (fun z => z.1 c34) (fun k9 z => (Option.some.inj (c54.symm.trans z)) ▸ c63)
                | exact lp76 ⟨Int32.not_lt.mp c6, c12⟩ (fun z => absurd (c39.symm.trans z.2) (Option.some_ne_none _)) (fun k9 z => absurd (z.symm.trans c54) (Option.some_ne_none k9))
                | exact lp76 ⟨Int32.not_lt.mp c6, c12⟩ (fun z => absurd (c39.symm.trans z.2) (Option.some_ne_none _)) (fun k9 z => (Option.some.inj (c54.symm.trans z)) ▸ c63)
            · refine zz_aload (q := 59) (i := 7) C (by decide +kernel) rfl rfl ?_
              refine zz_getI (q := 62) C gf_T_57 (by decide +kernel) rfl (by first | rfl | assumption) rfl ?_
              refine zz_iconst (q := 63) (n := 4) (x := 4) C (by decide +kernel) rfl (by decide +kernel) ?_
              refine zz_icmp_lt (off := 13) (tgt := 76) (q := 66) C (by decide +kernel) (by decide) rfl (fun c63 => ?_) (fun c63 => ?_)
              · -- AT 76
                first
                  | exact lp76 ⟨Int32.not_lt.mp c6, c12⟩ (fun z => z.1 c34) (fun k9 z => absurd (z.symm.trans c54) (Option.some_ne_none k9))
                  | exact lp76 ⟨Int32.not_lt.mp c6, c12⟩ (fun z => z.1 c34) (fun k9 z => (Option.some.inj (c54.symm.trans z)) ▸ c63)
                  | exact lp76 ⟨Int32.not_lt.mp c6, c12⟩ (fun z => absurd (c39.symm.trans z.2) (Option.some_ne_none _)) (fun k9 z => absurd (z.symm.trans c54) (Option.some_ne_none k9))
                  | exact lp76 ⟨Int32.not_lt.mp c6, c12⟩ (fun z => absurd (c39.symm.trans z.2) (Option.some_ne_none _)) (fun k9 z => (Option.some.inj (c54.symm.trans z)) ▸ c63)
              · exact zz_throw (q := 72) (i0 := 44) (i1 := 61) (tx := "the level is too low") C hx xx_ownA (by decide +kernel) (zz_in (i := 288) (by decide +kernel) (by decide +kernel)) (zz_in (i := 289) (by decide +kernel) (by decide +kernel)) (zz_in (i := 44) (by decide +kernel) (by decide +kernel)) (by decide +kernel) (by decide +kernel) (by decide +kernel) (Or.inl ⟨by decide +kernel, rfl⟩) (by decide +kernel) (by decide +kernel) hQ (by decide) (by decide) (by decide) (by decide) (by decide) (by decide) (hpX (Or.inr (Or.inr (Or.inl ⟨a54, c54, c63⟩))))
          · exact zz_throw (q := 48) (i0 := 44) (i1 := 55) (tx := "the parent is not declared") C hx xx_ownA (by decide +kernel) (zz_in (i := 288) (by decide +kernel) (by decide +kernel)) (zz_in (i := 289) (by decide +kernel) (by decide +kernel)) (zz_in (i := 44) (by decide +kernel) (by decide +kernel)) (by decide +kernel) (by decide +kernel) (by decide +kernel) (Or.inl ⟨by decide +kernel, rfl⟩) (by decide +kernel) (by decide +kernel) hQ (by decide) (by decide) (by decide) (by decide) (by decide) (by decide) (hpX (Or.inr (Or.inl ⟨c34, c39⟩)))
      · exact zz_throw (q := 21) (i0 := 44) (i1 := 46) (tx := "there is no such type") C hx xx_ownA (by decide +kernel) (zz_in (i := 288) (by decide +kernel) (by decide +kernel)) (zz_in (i := 289) (by decide +kernel) (by decide +kernel)) (zz_in (i := 44) (by decide +kernel) (by decide +kernel)) (by decide +kernel) (by decide +kernel) (by decide +kernel) (Or.inl ⟨by decide +kernel, rfl⟩) (by decide +kernel) (by decide +kernel) hQ (by decide) (by decide) (by decide) (by decide) (by decide) (by decide) (hpX (Or.inl (fun z => absurd z.2 c12)))

/-! the reference: insert -/
def mFree (k : zz_H) (r s : Nat) : Prop := s < 60 ∧ ¬ 0 < ma k r 14 s ∧ ∀ j, j < s → 0 < ma k r 14 j
def mTK (k : zz_H) (r t : Nat) (res : Option Nat) : Prop := ma k r 6 t ≠ 0 ∧ ma k r 5 t ≠ -1 ∧ ∃ s, s < 60 ∧ mTk k r t (mO res) s
def mo_i6 (k : zz_H) (r s t : Nat) (pv ov nv mv : Int32) : zz_H := zz_sI (zz_sI (zz_sI (zz_sI (zz_pI (zz_pI k 7 12 r nv) 7 13 r mv) (mf k r 14) s nv) (mf k r 15) s (nI t)) (mf k r 16) s pv) (mf k r 17) s ov
def mo_i7 (k : zz_H) (r s t : Nat) (pv nv mv : Int32) (best : Option Nat) (n : Nat) : zz_H := match best with
  | none => mo_pw (mo_i6 k r s t pv (-1) nv mv) r s n
  | some b => mo_pw (zz_sI (mo_pw (mo_i6 k r s t pv (nI b) nv mv) r s n) (mf k r 17) b (nI s)) r b n
def mo_in (k : zz_H) (r s t : Nat) (pv : Int32) (best : Option Nat) (n : Nat) : zz_H := zz_pI (zz_pI (mo_i7 k r s t pv (zz_fI k 7 12 r + 1) (zz_fI k 7 13 r + 1) best n) 7 28 r 1) 7 29 r (nI s)
def mo_ic (k : zz_H) (r t : Nat) (res : Option Nat) (post : Option zz_V → zz_H → Prop) : Prop := (res = none → ma k r 2 t ≠ -1 → post (some (zz_i (-2))) k) ∧ ((res ≠ none ∨ ma k r 2 t = -1) → mo_qs k r t ∧ (mTK k r t res → post (some (zz_i (-3))) k) ∧ (¬ mTK k r t res → (zz_fI k 7 13 r = 60 → post (some (zz_i (-4))) k) ∧ (zz_fI k 7 13 r ≠ 60 → ∃ s u n, mFree k r s ∧ ma k r 8 t = mO u ∧ (∀ u9, u = some u9 → (u9 < 8 ∧ ma k r 5 u9 = nI (mQs k r u9) ∧ mQs k r u9 < 4 ∧ ma k r 5 t = nI (mQs k r t) ∧ mQs k r t < 4) ∧ ma k r 4 u9 = nI n) ∧ ma k r 4 t = nI n ∧ n ≤ 4 ∧ ∀ best, (u = none → best = none) → (∀ u9, u = some u9 → mBst k r (mTf k r t u9) 60 best) → post (some (zz_i (zz_fI k 7 12 r + 1))) (mo_in k r s t (mO res) best n))))
def mo_fp (h : zz_H) (r sw t2 t : Nat) (k : zz_H) (res : Option Nat) : Prop := (ma h r 2 t = -1 ∧ k = mo_bg h r ∧ res = none) ∨ (ma h r 2 t ≠ -1 ∧ ∃ y Ls x, mo_Sd (mo_bg h r) r sw t2 y Ls x ∧ k = mo_so (mo_bg h r) y x ∧ or_first Ls.length 0 (fun i => mFp k r t (Ls.getD i 0)) (fun i => Ls.getD i 0) res)
section I6
variable {k : zz_H} {r s t n : Nat} {pv ov nv mv : Int32}
theorem mo_i6_a (hap : mo_ap k r) {j : Nat} (h0 : mo_sz j ≠ none) (hj : j ≠ 14 ∧ j ≠ 15 ∧ j ≠ 16 ∧ j ≠ 17) (i : Nat) : ma (mo_i6 k r s t pv ov nv mv) r j i = ma k r j i := by
  show (if mf k r j = mf k r 17 ∧ i = s then ov else if mf k r j = mf k r 16 ∧ i = s then pv else if mf k r j = mf k r 15 ∧ i = s then nI t else if mf k r j = mf k r 14 ∧ i = s then nv else zz_aI k (mf k r j) i) = _
  rw [if_neg (fun z => hap j 17 h0 (by decide) hj.2.2.2 z.1), if_neg (fun z => hap j 16 h0 (by decide) hj.2.2.1 z.1), if_neg (fun z => hap j 15 h0 (by decide) hj.2.1 z.1), if_neg (fun z => hap j 14 h0 (by decide) hj.1 z.1)]; rfl
theorem mo_i6_o (hap : mo_ap k r) {j : Nat} (h0 : mo_sz j ≠ none) {i : Nat} (hi : i ≠ s) : ma (mo_i6 k r s t pv ov nv mv) r j i = ma k r j i := by
  show (if mf k r j = mf k r 17 ∧ i = s then ov else if mf k r j = mf k r 16 ∧ i = s then pv else if mf k r j = mf k r 15 ∧ i = s then nI t else if mf k r j = mf k r 14 ∧ i = s then nv else zz_aI k (mf k r j) i) = _
  rw [if_neg (fun z => hi z.2), if_neg (fun z => hi z.2), if_neg (fun z => hi z.2), if_neg (fun z => hi z.2)]; rfl
theorem mo_i6_17 : ma (mo_i6 k r s t pv ov nv mv) r 17 s = ov := if_pos ⟨rfl, rfl⟩
theorem mo_i6_16 (hap : mo_ap k r) : ma (mo_i6 k r s t pv ov nv mv) r 16 s = pv := by
  show (if mf k r 16 = mf k r 17 ∧ s = s then ov else if mf k r 16 = mf k r 16 ∧ s = s then pv else _) = _
  rw [if_neg (fun z => hap 16 17 (by decide) (by decide) (by decide) z.1), if_pos ⟨rfl, rfl⟩]
theorem mo_i6_15 (hap : mo_ap k r) : ma (mo_i6 k r s t pv ov nv mv) r 15 s = nI t := by
  show (if mf k r 15 = mf k r 17 ∧ s = s then ov else if mf k r 15 = mf k r 16 ∧ s = s then pv else if mf k r 15 = mf k r 15 ∧ s = s then nI t else _) = _
  rw [if_neg (fun z => hap 15 17 (by decide) (by decide) (by decide) z.1), if_neg (fun z => hap 15 16 (by decide) (by decide) (by decide) z.1), if_pos ⟨rfl, rfl⟩]
theorem mo_i6_14 (hap : mo_ap k r) : ma (mo_i6 k r s t pv ov nv mv) r 14 s = nv := by
  show (if mf k r 14 = mf k r 17 ∧ s = s then ov else if mf k r 14 = mf k r 16 ∧ s = s then pv else if mf k r 14 = mf k r 15 ∧ s = s then nI t else if mf k r 14 = mf k r 14 ∧ s = s then nv else _) = _
  rw [if_neg (fun z => hap 14 17 (by decide) (by decide) (by decide) z.1), if_neg (fun z => hap 14 16 (by decide) (by decide) (by decide) z.1), if_neg (fun z => hap 14 15 (by decide) (by decide) (by decide) z.1), if_pos ⟨rfl, rfl⟩]
theorem mo_i6_K (hap : mo_ap k r) (ht : t < 8) : mK (mo_i6 k r s t pv ov nv mv) r s = t := by
  rw [mK, mo_i6_15 hap]; exact nI_clamp (by omega)
theorem mo_i6_nv : zz_fI (zz_pI (zz_pI k 7 12 r nv) 7 13 r mv) 7 12 r = nv := by
  show (if 7 = 7 ∧ 12 = 13 ∧ r = r then mv else if 7 = 7 ∧ 12 = 12 ∧ r = r then nv else _) = _
  rw [if_neg (fun z => absurd z.2.1 (by decide)), if_pos ⟨rfl, rfl, rfl⟩]
end I6
theorem mBst_P {h : zz_H} {r n b : Nat} {P : Nat → Prop} (hb : mBst h r P n (some b)) : b < n ∧ P b := by
  rcases hb with ⟨e, -⟩ | ⟨i, h1, h2, e, -⟩
  · cases e
  · cases e; exact ⟨h1, h2⟩
theorem or_first_60 {n f : Nat} {P : Nat → Prop} {v : Nat → Nat} {res : Option Nat} {m : Nat} (h1 : ∀ i, i < n → v i < m) (hr : or_first n f P v res) : ∀ b, res = some b → b < m := fun b e => by
  rcases hr with ⟨z, -⟩ | ⟨i, _, i1, -, -, z⟩
  · rw [z] at e; cases e
  · rw [z] at e; cases e; exact h1 i i1
def T_M_insert : zz_Tr := fun as h post => ∃ r t sw t2, as = [zz_r 7 (some r), zz_i t] ∧ mo_W h r sw t2 ∧ (¬ mo_ty h r t → post (some (zz_i 0)) (zz_pI (mo_bg h r) 7 0 r 1)) ∧ ∀ t9, t9 < 8 → t = nI t9 → mo_ty h r t → ∀ k res, mo_fp h r sw t2 t9 k res → mo_ic k r t9 res post
set_option maxRecDepth 100000 in
set_option maxHeartbeats 4000000 in
theorem m_M_insert (l : Launch) : zz_Met l y_M_insert w_M_insert { frames := 6, cells := 0, slots := 0, locals := 131 } T_M_insert := by
  refine zz_ofZ (by decide) (fun as h post hT => ?_) ?_
  · obtain ⟨r, t, sw, t2, rfl, hW, hp0, hp⟩ := hT
    exact ⟨by simp [zz_cat], by simp⟩
  · intro D DA h as post hT p e s m args below meth c Q C hr hlk hnm hQ
    obtain ⟨r, t, sw, t2, rfl, hW, hp0, hp⟩ := hT
    have hok := hW.2.2.1
    have hap := hW.2.2.2.1
    have hW0 : mo_W (mo_bg h r) r sw t2 := hW
    have lp190 : ∀ k v2 s9 v4 nv, mo_ok k r → s9 < 60 → ma k r 14 s9 = nv → post (some (zz_i nv)) (zz_pI (zz_pI k 7 28 r 1) 7 29 r (nI s9)) → zz_Z p l e { frames := 6, cells := 0, slots := 0, locals := 131 } s m args below meth c Q D DA (zz_A h s.heap.size) h 5 190 [some (zz_r 7 (some r)), some (zz_i t), v2, some (zz_i (nI s9)), v4] [] k 0 0 := by
      intro k v2 s9 v4 nv hok hs60 hv hpx
      refine zz_aload_n (q := 191) (f := 0) (i := 0) C (by decide +kernel) rfl rfl rfl ?_
      refine zz_iconst (q := 192) (n := 1) (x := 1) C (by decide +kernel) rfl (by decide +kernel) ?_
      refine zz_putI (q := 195) C gf_M_144 (fun h => by cases h) (fun h => by cases h) (by decide +kernel) rfl (by first | rfl | assumption) ?_
      refine zz_aload_n (q := 196) (f := 0) (i := 0) C (by decide +kernel) rfl rfl rfl ?_
      refine zz_iload_n (q := 197) (f := 3) (i := 3) C (by decide +kernel) rfl rfl rfl ?_
      refine zz_putI (q := 200) C gf_M_147 (fun h => by cases h) (fun h => by cases h) (by decide +kernel) rfl (by first | rfl | assumption) ?_
      refine zz_aload_n (q := 201) (f := 0) (i := 0) C (by decide +kernel) rfl rfl rfl ?_
      refine zz_getR (q := 204) C gf_M_39 (by decide +kernel) rfl (by first | rfl | assumption) (hok 14 90 60 rfl).1 ?_
      refine zz_iload_n (q := 205) (f := 3) (i := 3) C (by decide +kernel) rfl rfl rfl ?_
      refine zz_iaload (q := 206) C (by decide +kernel) rfl rfl (hok 14 90 60 rfl).2 rfl (by omega) (by decide) hv ?_
      refine zz_iret C hr hlk (by decide +kernel) hQ (by decide) (by decide) ?_
      exact hpx
    have lp91 : ∀ t9 k res, t = nI t9 → t9 < 8 → mo_ok k r → mo_ap k r → (∀ b, res = some b → b < 60) → ∀ s9 u n9, mFree k r s9 → ma k r 8 t9 = mO u → (∀ u9, u = some u9 → (u9 < 8 ∧ ma k r 5 u9 = nI (mQs k r u9) ∧ mQs k r u9 < 4 ∧ ma k r 5 t9 = nI (mQs k r t9) ∧ mQs k r t9 < 4) ∧ ma k r 4 u9 = nI n9) → ma k r 4 t9 = nI n9 → n9 ≤ 4 → (∀ best, (u = none → best = none) → (∀ u9, u = some u9 → mBst k r (mTf k r t9 u9) 60 best) → post (some (zz_i (zz_fI k 7 12 r + 1))) (mo_in k r s9 t9 (mO res) best n9)) → ∀ n i, s9 + 1 ≤ n + i → i ≤ s9 → zz_Z p l e { frames := 6, cells := 0, slots := 0, locals := 131 } s m args below meth c Q D DA (zz_A h s.heap.size) h 5 91 [some (zz_r 7 (some r)), some (zz_i t), some (zz_i (mO res)), some (zz_i (nI i)), none] [] k 0 0 := by
      intro t9 k res e9 ht8 hok hap h60 s9 u n9 hfr hu hu9 hn9 hn4 hpx n
      subst e9
      have hs60 := hfr.1
      induction n with
      | zero =>
        intro i hn hi
        exact absurd hn (by omega)
      | succ n ih =>
        intro i hn hile
        refine zz_aload_n (q := 92) (f := 0) (i := 0) C (by decide +kernel) rfl rfl rfl ?_
        refine zz_getR (q := 95) C gf_M_39 (by decide +kernel) rfl (by first | rfl | assumption) (hok 14 90 60 rfl).1 ?_
        refine zz_iload_n (q := 96) (f := 3) (i := 3) C (by decide +kernel) rfl rfl rfl ?_
        refine zz_iaload (q := 97) C (by decide +kernel) rfl rfl (hok 14 90 60 rfl).2 rfl (by omega) (by decide) rfl ?_
        refine zz_if_le (off := 9) (tgt := 106) (q := 100) C (by decide +kernel) (by decide) rfl (fun c97 => ?_) (fun c97 => ?_)
        · obtain rfl : i = s9 := by
            apply Nat.le_antisymm hile
            exact Nat.le_of_not_lt (fun z => absurd (hfr.2.2 i z) (Int32.not_lt.mpr c97))
          refine zz_aload_n (q := 107) (f := 0) (i := 0) C (by decide +kernel) rfl rfl rfl ?_
          refine zz_iload_n (q := 108) (f := 1) (i := 1) C (by decide +kernel) rfl rfl rfl ?_
          refine zz_callV (q := 111) C (m_M_findTwin l) cv_M_182 (by decide +kernel) rfl rfl rfl (by first | rfl | assumption) (by decide) (by decide) (Nat.le_of_ble_eq_true rfl) ⟨_, t9, u, rfl, hok, ht8, hu, (fun u9 z => (hu9 u9 z).1), fun best hb0 hb9 => ?_⟩
          have hpb := hpx best hb0 hb9
          have hN : mO best = -1 → best = none := fun z => by
            cases best with
            | none => rfl
            | some b =>
              cases u with
              | none => exact absurd (hb0 rfl) (Option.some_ne_none _)
              | some u9 => exact absurd z (nI_neg (by have := (mBst_P (hb9 u9 rfl)).1; omega))
          refine zz_istore (q := 113) (i := 4) C (by decide +kernel) rfl (by decide) rfl ?_
          refine zz_aload_n (q := 114) (f := 0) (i := 0) C (by decide +kernel) rfl rfl rfl ?_
          refine zz_dup (q := 115) C (by decide +kernel) rfl rfl ?_
          refine zz_getI (q := 118) C gf_M_98 (by decide +kernel) rfl (by first | rfl | assumption) rfl ?_
          refine zz_iconst (q := 119) (n := 1) (x := 1) C (by decide +kernel) rfl (by decide +kernel) ?_
          refine zz_iadd (q := 120) C (by decide +kernel) rfl rfl ?_
          refine zz_putI (q := 123) C gf_M_98 (fun h => by cases h) (fun h => by cases h) (by decide +kernel) rfl (by first | rfl | assumption) ?_
          refine zz_aload_n (q := 124) (f := 0) (i := 0) C (by decide +kernel) rfl rfl rfl ?_
          refine zz_dup (q := 125) C (by decide +kernel) rfl rfl ?_
          refine zz_getI (q := 128) C gf_M_153 (by decide +kernel) rfl (by first | rfl | assumption) rfl ?_
          refine zz_iconst (q := 129) (n := 1) (x := 1) C (by decide +kernel) rfl (by decide +kernel) ?_
          refine zz_iadd (q := 130) C (by decide +kernel) rfl rfl ?_
          refine zz_putI (q := 133) C gf_M_153 (fun h => by cases h) (fun h => by cases h) (by decide +kernel) rfl (by first | rfl | assumption) ?_
          refine zz_aload_n (q := 134) (f := 0) (i := 0) C (by decide +kernel) rfl rfl rfl ?_
          refine zz_getR (q := 137) C gf_M_39 (by decide +kernel) rfl (by first | rfl | assumption) (hok 14 90 60 rfl).1 ?_
          refine zz_iload_n (q := 138) (f := 3) (i := 3) C (by decide +kernel) rfl rfl rfl ?_
          refine zz_aload_n (q := 139) (f := 0) (i := 0) C (by decide +kernel) rfl rfl rfl ?_
          refine zz_getI (q := 142) C gf_M_98 (by decide +kernel) rfl (by first | rfl | assumption) mo_i6_nv ?_
          refine zz_iastore (q := 143) C (by decide +kernel) rfl rfl (hok 14 90 60 rfl).2 rfl (by omega) (by decide) ?_
          refine zz_aload_n (q := 144) (f := 0) (i := 0) C (by decide +kernel) rfl rfl rfl ?_
          refine zz_getR (q := 147) C gf_M_42 (by decide +kernel) rfl (by first | rfl | assumption) (hok 15 90 60 rfl).1 ?_
          refine zz_iload_n (q := 148) (f := 3) (i := 3) C (by decide +kernel) rfl rfl rfl ?_
          refine zz_iload_n (q := 149) (f := 1) (i := 1) C (by decide +kernel) rfl rfl rfl ?_
          refine zz_iastore (q := 150) C (by decide +kernel) rfl rfl (hok 15 90 60 rfl).2 rfl (by omega) (by decide) ?_
          refine zz_aload_n (q := 151) (f := 0) (i := 0) C (by decide +kernel) rfl rfl rfl ?_
          refine zz_getR (q := 154) C gf_M_45 (by decide +kernel) rfl (by first | rfl | assumption) (hok 16 90 60 rfl).1 ?_
          refine zz_iload_n (q := 155) (f := 3) (i := 3) C (by decide +kernel) rfl rfl rfl ?_
          refine zz_iload_n (q := 156) (f := 2) (i := 2) C (by decide +kernel) rfl rfl rfl ?_
          refine zz_iastore (q := 157) C (by decide +kernel) rfl rfl (hok 16 90 60 rfl).2 rfl (by omega) (by decide) ?_
          refine zz_aload_n (q := 158) (f := 0) (i := 0) C (by decide +kernel) rfl rfl rfl ?_
          refine zz_getR (q := 161) C gf_M_48 (by decide +kernel) rfl (by first | rfl | assumption) (hok 17 90 60 rfl).1 ?_
          refine zz_iload_n (q := 162) (f := 3) (i := 3) C (by decide +kernel) rfl rfl rfl ?_
          refine zz_iload (q := 164) (i := 4) C (by decide +kernel) rfl rfl ?_
          refine zz_iastore (q := 165) C (by decide +kernel) rfl rfl (hok 17 90 60 rfl).2 rfl (by omega) (by decide) ?_
          have f15 : ma (mo_i6 k r i t9 (mO res) (mO best) (zz_fI k 7 12 r + 1) (zz_fI k 7 13 r + 1)) r 15 i = nI (mK (mo_i6 k r i t9 (mO res) (mO best) (zz_fI k 7 12 r + 1) (zz_fI k 7 13 r + 1)) r i) := by rw [mo_i6_K hap ht8]; exact mo_i6_15 hap
          have f8 : mK (mo_i6 k r i t9 (mO res) (mO best) (zz_fI k 7 12 r + 1) (zz_fI k 7 13 r + 1)) r i < 8 := by rw [mo_i6_K hap ht8]; exact ht8
          have f4 : ma (mo_i6 k r i t9 (mO res) (mO best) (zz_fI k 7 12 r + 1) (zz_fI k 7 13 r + 1)) r 4 (mK (mo_i6 k r i t9 (mO res) (mO best) (zz_fI k 7 12 r + 1) (zz_fI k 7 13 r + 1)) r i) = nI n9 := by rw [mo_i6_K hap ht8]; exact (mo_i6_a hap (by decide) (by decide) _).trans hn9
          refine zz_aload_n (q := 166) (f := 0) (i := 0) C (by decide +kernel) rfl rfl rfl ?_
          refine zz_iload_n (q := 167) (f := 3) (i := 3) C (by decide +kernel) rfl rfl rfl ?_
          refine zz_callV (q := 170) C (m_M_putWords l) cv_M_185 (by decide +kernel) rfl rfl rfl (by first | rfl | assumption) (by decide) (by decide) (Nat.le_of_ble_eq_true rfl) ⟨_, i, n9, rfl, hok, hap, hs60, f15, f8, f4, hn4, ?_⟩
          refine zz_iload (q := 172) (i := 4) C (by decide +kernel) rfl rfl ?_
          refine zz_iconst (q := 173) (n := -1) (x := (-1)) C (by decide +kernel) rfl (by decide +kernel) ?_
          refine zz_icmp_eq (off := 17) (tgt := 190) (q := 176) C (by decide +kernel) (by decide) rfl (fun c173 => ?_) (fun c173 => ?_)
          · -- AT 190
            first
              | exact lp190 _ _ i _ _ hok hs60 nv1 hp1
              | exact lp190 _ _ i _ _ hok hs60 (mo_pw_a (h := mo_i6 k r i t9 (mO res) (mO best) (zz_fI k 7 12 r + 1) (zz_fI k 7 13 r + 1)) hap (j := 14) (by decide) (by decide) i n9 i |>.trans (mo_i6_14 hap)) (hN c173 ▸ hpb)
          · obtain ⟨b9, rfl⟩ := mO_some c173
            obtain ⟨u9, rfl⟩ : ∃ u9, u = some u9 := by
              cases u with
              | none => exact absurd (hb0 rfl) (Option.some_ne_none _)
              | some u9 => exact ⟨u9, rfl⟩
            obtain ⟨hb60, hbP⟩ := mBst_P (hb9 u9 rfl)
            obtain ⟨⟨q1, -⟩, q2⟩ := hu9 u9 rfl
            have hne : b9 ≠ i := fun z => hfr.2.1 (z ▸ hbP.1)
            have hne15 : mf k r 15 ≠ mf k r 17 := hap 15 17 (by decide) (by decide) (by decide)
            have hne4 : mf k r 4 ≠ mf k r 17 := hap 4 17 (by decide) (by decide) (by decide)
            refine zz_aload_n (q := 177) (f := 0) (i := 0) C (by decide +kernel) rfl rfl rfl ?_
            refine zz_getR (q := 180) C gf_M_48 (by decide +kernel) rfl (by first | rfl | assumption) (hok 17 90 60 rfl).1 ?_
            refine zz_iload (q := 182) (i := 4) C (by decide +kernel) rfl rfl ?_
            refine zz_iload_n (q := 183) (f := 3) (i := 3) C (by decide +kernel) rfl rfl rfl ?_
            refine zz_iastore (q := 184) C (by decide +kernel) rfl rfl (hok 17 90 60 rfl).2 rfl (by omega) (by decide) ?_
            have k15 : ma (zz_sI (mo_pw (mo_i6 k r i t9 (mO res) (mO (some b9)) (zz_fI k 7 12 r + 1) (zz_fI k 7 13 r + 1)) r i n9) (mf k r 17) b9 (nI i)) r 15 b9 = nI u9 := (if_neg (fun z => hne15 z.1)).trans ((mo_pw_a (h := mo_i6 k r i t9 (mO res) (mO (some b9)) (zz_fI k 7 12 r + 1) (zz_fI k 7 13 r + 1)) hap (by decide) (by decide) _ _ _).trans ((mo_i6_o hap (by decide) hne).trans hbP.2.1))
            have kK : mK (zz_sI (mo_pw (mo_i6 k r i t9 (mO res) (mO (some b9)) (zz_fI k 7 12 r + 1) (zz_fI k 7 13 r + 1)) r i n9) (mf k r 17) b9 (nI i)) r b9 = u9 := by
              rw [mK, k15]; exact nI_clamp (by omega)
            have k4 : ma (zz_sI (mo_pw (mo_i6 k r i t9 (mO res) (mO (some b9)) (zz_fI k 7 12 r + 1) (zz_fI k 7 13 r + 1)) r i n9) (mf k r 17) b9 (nI i)) r 4 (mK (zz_sI (mo_pw (mo_i6 k r i t9 (mO res) (mO (some b9)) (zz_fI k 7 12 r + 1) (zz_fI k 7 13 r + 1)) r i n9) (mf k r 17) b9 (nI i)) r b9) = nI n9 := by
              rw [kK]; exact (if_neg (fun z => hne4 z.1)).trans ((mo_pw_a (h := mo_i6 k r i t9 (mO res) (mO (some b9)) (zz_fI k 7 12 r + 1) (zz_fI k 7 13 r + 1)) hap (by decide) (by decide) _ _ _).trans ((mo_i6_a hap (by decide) (by decide) _).trans q2))
            refine zz_aload_n (q := 185) (f := 0) (i := 0) C (by decide +kernel) rfl rfl rfl ?_
            refine zz_iload (q := 187) (i := 4) C (by decide +kernel) rfl rfl ?_
            refine zz_callV (q := 190) C (m_M_putWords l) cv_M_185 (by decide +kernel) rfl rfl rfl (by first | rfl | assumption) (by decide) (by decide) (Nat.le_of_ble_eq_true rfl) ⟨_, b9, n9, rfl, hok, hap, hb60, k15.trans (congrArg nI kK.symm), kK.symm ▸ q1, k4, hn4, ?_⟩
            have nv1 := (mo_pw_a (h := zz_sI (mo_pw (mo_i6 k r i t9 (mO res) (mO (some b9)) (zz_fI k 7 12 r + 1) (zz_fI k 7 13 r + 1)) r i n9) (mf k r 17) b9 (nI i)) hap (j := 14) (by decide) (by decide) b9 n9 i).trans ((if_neg (fun z => hap 14 17 (by decide) (by decide) (by decide) z.1)).trans ((mo_pw_a (h := mo_i6 k r i t9 (mO res) (mO (some b9)) (zz_fI k 7 12 r + 1) (zz_fI k 7 13 r + 1)) hap (j := 14) (by decide) (by decide) i n9 i).trans (mo_i6_14 hap)))
            have hp1 := hpb
            -- AT 190
            first
              | exact lp190 _ _ i _ _ hok hs60 nv1 hp1
              | exact lp190 _ _ i _ _ hok hs60 (mo_pw_a (h := mo_i6 k r i t9 (mO res) (mO best) (zz_fI k 7 12 r + 1) (zz_fI k 7 13 r + 1)) hap (j := 14) (by decide) (by decide) i n9 i |>.trans (mo_i6_14 hap)) (hN c173 ▸ hpb)
        · refine zz_iinc (q := 103) (i := 3) (n := 1) C (by decide +kernel) rfl rfl (nI_1 _) (by decide) rfl ?_
          refine zz_goto (off := -12) (tgt := 91) C (by decide +kernel) (by decide) ?_
          -- AT 91
          exact ih (i + 1) (by omega) (Nat.lt_of_le_of_ne hile (fun z => hfr.2.1 (z ▸ Int32.not_le.mp c97)))
    have lp77 : ∀ t9 k res, t = nI t9 → t9 < 8 → mo_ok k r → mo_ap k r → (∀ b, res = some b → b < 60) → mo_ic k r t9 res post → (res ≠ none ∨ ma k r 2 t9 = -1) → ¬ mTK k r t9 res → zz_Z p l e { frames := 6, cells := 0, slots := 0, locals := 131 } s m args below meth c Q D DA (zz_A h s.heap.size) h 5 77 [some (zz_r 7 (some r)), some (zz_i t), some (zz_i (mO res)), none, none] [] k 0 0 := by
      intro t9 k res e9 ht8 hok hap h60 hic hg hno
      subst e9
      obtain ⟨hqs, hic1, hic2⟩ := hic.2 hg
      refine zz_aload_n (q := 78) (f := 0) (i := 0) C (by decide +kernel) rfl rfl rfl ?_
      refine zz_getI (q := 81) C gf_M_153 (by decide +kernel) rfl (by first | rfl | assumption) rfl ?_
      refine zz_bipush (q := 83) (n := 60) (x := 60) C (by decide +kernel) rfl (by decide +kernel) ?_
      refine zz_icmp_ne (off := 6) (tgt := 89) (q := 86) C (by decide +kernel) (by decide) rfl (fun c83 => ?_) (fun c83 => ?_)
      · refine zz_iconst (q := 90) (n := 0) (x := 0) C (by decide +kernel) rfl (by decide +kernel) ?_
        refine zz_istore_n (q := 91) (f := 3) (i := 3) C (by decide +kernel) rfl rfl (by decide) rfl ?_
        -- AT 91
        obtain ⟨s9, u, n9, f1, f2, f3, f4, f5, f6⟩ := (hic2 hno).2 c83
        exact lp91 t9 k res rfl ht8 hok hap h60 s9 u n9 f1 f2 f3 f4 f5 f6 (s9 + 1) 0 (by omega) (by omega)
      · refine zz_bipush (q := 88) (n := -4) (x := (-4)) C (by decide +kernel) rfl (by decide +kernel) ?_
        refine zz_iret C hr hlk (by decide +kernel) hQ (by decide) (by decide) ?_
        exact (hic2 hno).1 c83
    have lp56 : ∀ t9 k res, t = nI t9 → t9 < 8 → mo_ok k r → mo_ap k r → (∀ b, res = some b → b < 60) → mo_ic k r t9 res post → (res ≠ none ∨ ma k r 2 t9 = -1) → zz_Z p l e { frames := 6, cells := 0, slots := 0, locals := 131 } s m args below meth c Q D DA (zz_A h s.heap.size) h 5 56 [some (zz_r 7 (some r)), some (zz_i t), some (zz_i (mO res)), none, none] [] k 0 0 := by
      intro t9 k res e9 ht8 hok hap h60 hic hg
      subst e9
      obtain ⟨hqs, hic1, hic2⟩ := hic.2 hg
      refine zz_aload_n (q := 57) (f := 0) (i := 0) C (by decide +kernel) rfl rfl rfl ?_
      refine zz_getR (q := 60) C gf_M_26 (by decide +kernel) rfl (by first | rfl | assumption) (hok 6 91 8 rfl).1 ?_
      refine zz_iload_n (q := 61) (f := 1) (i := 1) C (by decide +kernel) rfl rfl rfl ?_
      refine zz_baload (q := 62) C (by decide +kernel) rfl rfl (hok 6 91 8 rfl).2 rfl (by omega) (by decide) rfl ?_
      refine zz_if_eq (off := 15) (tgt := 77) (q := 65) C (by decide +kernel) (by decide) rfl (fun c62 => ?_) (fun c62 => ?_)
      · -- AT 77
        first
          | exact lp77 t9 k res rfl ht8 hok hap h60 hic hg (fun z => z.1 c62)
          | exact lp77 t9 k res rfl ht8 hok hap h60 hic hg (fun z => zz_b_f c71 z.2)
      · refine zz_aload_n (q := 66) (f := 0) (i := 0) C (by decide +kernel) rfl rfl rfl ?_
        refine zz_iload_n (q := 67) (f := 1) (i := 1) C (by decide +kernel) rfl rfl rfl ?_
        refine zz_iload_n (q := 68) (f := 2) (i := 2) C (by decide +kernel) rfl rfl rfl ?_
        refine zz_callV (q := 71) C (m_M_isTaken l) cv_M_179 (by decide +kernel) rfl rfl rfl (by first | rfl | assumption) (by decide) (by decide) (Nat.le_of_ble_eq_true rfl) ⟨_, t9, _, rfl, hok, ht8, hqs, ?_⟩
        refine zz_if_eq (off := 6) (tgt := 77) (q := 74) C (by decide +kernel) (by decide) rfl (fun c71 => ?_) (fun c71 => ?_)
        · -- AT 77
          first
            | exact lp77 t9 k res rfl ht8 hok hap h60 hic hg (fun z => z.1 c62)
            | exact lp77 t9 k res rfl ht8 hok hap h60 hic hg (fun z => zz_b_f c71 z.2)
        · refine zz_bipush (q := 76) (n := -3) (x := (-3)) C (by decide +kernel) rfl (by decide +kernel) ?_
          refine zz_iret C hr hlk (by decide +kernel) hQ (by decide) (by decide) ?_
          exact hic1 ⟨c62, zz_b_t c71⟩
    have lp37 : ∀ t9 k res, t = nI t9 → t9 < 8 → mo_ok k r → mo_ap k r → (∀ b, res = some b → b < 60) → mo_ic k r t9 res post → zz_Z p l e { frames := 6, cells := 0, slots := 0, locals := 131 } s m args below meth c Q D DA (zz_A h s.heap.size) h 5 37 [some (zz_r 7 (some r)), some (zz_i t), none, none, none] [zz_i (mO res)] k 0 0 := by
      intro t9 k res e9 ht8 hok hap h60 hic
      subst e9
      refine zz_istore_n (q := 38) (f := 2) (i := 2) C (by decide +kernel) rfl rfl (by decide) rfl ?_
      refine zz_aload_n (q := 39) (f := 0) (i := 0) C (by decide +kernel) rfl rfl rfl ?_
      refine zz_getR (q := 42) C gf_M_13 (by decide +kernel) rfl (by first | rfl | assumption) (hok 2 90 8 rfl).1 ?_
      refine zz_iload_n (q := 43) (f := 1) (i := 1) C (by decide +kernel) rfl rfl rfl ?_
      refine zz_iaload (q := 44) C (by decide +kernel) rfl rfl (hok 2 90 8 rfl).2 rfl (by omega) (by decide) rfl ?_
      refine zz_iconst (q := 45) (n := -1) (x := (-1)) C (by decide +kernel) rfl (by decide +kernel) ?_
      refine zz_icmp_eq (off := 11) (tgt := 56) (q := 48) C (by decide +kernel) (by decide) rfl (fun c45 => ?_) (fun c45 => ?_)
      · -- AT 56
        first
          | exact lp56 t9 k res rfl ht8 hok hap h60 hic (Or.inr c45)
          | exact lp56 t9 k res rfl ht8 hok hap h60 hic (Or.inl (fun z => c50 (by rw [z]; rfl)))
      · refine zz_iload_n (q := 49) (f := 2) (i := 2) C (by decide +kernel) rfl rfl rfl ?_
        refine zz_iconst (q := 50) (n := -1) (x := (-1)) C (by decide +kernel) rfl (by decide +kernel) ?_
        refine zz_icmp_ne (off := 6) (tgt := 56) (q := 53) C (by decide +kernel) (by decide) rfl (fun c50 => ?_) (fun c50 => ?_)
        · -- AT 56
          first
            | exact lp56 t9 k res rfl ht8 hok hap h60 hic (Or.inr c45)
            | exact lp56 t9 k res rfl ht8 hok hap h60 hic (Or.inl (fun z => c50 (by rw [z]; rfl)))
        · refine zz_bipush (q := 55) (n := -2) (x := (-2)) C (by decide +kernel) rfl (by decide +kernel) ?_
          refine zz_iret C hr hlk (by decide +kernel) hQ (by decide) (by decide) ?_
          exact hic.1 (by
            cases res with
            | none => rfl
            | some b => exact absurd c50 (nI_neg (by have := h60 b rfl; omega))) c45
    refine zz_aload_n (q := 1) (f := 0) (i := 0) C (by decide +kernel) rfl rfl rfl ?_
    refine zz_callV (q := 4) C (m_M_begin l) cv_M_91 (by decide +kernel) rfl rfl rfl (by first | rfl | assumption) (by decide) (by decide) (Nat.le_of_ble_eq_true rfl) ⟨_, rfl, ?_⟩
    refine zz_aload_n (q := 5) (f := 0) (i := 0) C (by decide +kernel) rfl rfl rfl ?_
    refine zz_iload_n (q := 6) (f := 1) (i := 1) C (by decide +kernel) rfl rfl rfl ?_
    refine zz_callV (q := 9) C (m_M_isType l) cv_M_94 (by decide +kernel) rfl rfl rfl (by first | rfl | assumption) (by decide) (by decide) (Nat.le_of_ble_eq_true rfl) ⟨_, _, rfl, hok, ?_⟩
    refine zz_if_ne (off := 9) (tgt := 18) (q := 12) C (by decide +kernel) (by decide) rfl (fun c9 => ?_) (fun c9 => ?_)
    · have h9 := mo_ty9 (zz_b_t c9)
      obtain ⟨t9, ht8, e9⟩ : ∃ t9, t9 < 8 ∧ t = nI t9 := ⟨_, h9⟩
      have hp9 := hp t9 ht8 e9 (zz_b_t c9)
      refine zz_aload_n (q := 19) (f := 0) (i := 0) C (by decide +kernel) rfl rfl rfl ?_
      refine zz_getR (q := 22) C gf_M_13 (by decide +kernel) rfl (by first | rfl | assumption) (hok 2 90 8 rfl).1 ?_
      refine zz_iload_n (q := 23) (f := 1) (i := 1) C (by decide +kernel) rfl rfl rfl ?_
      refine zz_iaload (q := 24) C (by decide +kernel) rfl rfl (hok 2 90 8 rfl).2 e9 (by omega) (by decide) rfl ?_
      refine zz_iconst (q := 25) (n := -1) (x := (-1)) C (by decide +kernel) rfl (by decide +kernel) ?_
      refine zz_icmp_ne (off := 7) (tgt := 32) (q := 28) C (by decide +kernel) (by decide) rfl (fun c25 => ?_) (fun c25 => ?_)
      · refine zz_aload_n (q := 33) (f := 0) (i := 0) C (by decide +kernel) rfl rfl rfl ?_
        refine zz_iload_n (q := 34) (f := 1) (i := 1) C (by decide +kernel) rfl rfl rfl ?_
        refine zz_callV (q := 37) C (m_M_findParent l) cv_M_176 (by decide +kernel) rfl rfl rfl (by first | rfl | assumption) (by decide) (by decide) (Nat.le_of_ble_eq_true rfl) ⟨_, t9, sw, t2, (by rw [e9]), ht8, hW0, fun y Ls x hS res hres => ?_⟩
        -- AT 37
        first
          | exact lp37 t9 _ none e9 ht8 hok hap (fun b z => by cases z) (hp9 _ none (Or.inl ⟨c25, rfl, rfl⟩))
          | exact lp37 t9 _ res e9 ht8 hok hap (or_first_60 (fun i h1 => (mo_so_al hW0 hS _ (List.mem_of_getElem? (lst_get h1))).1) hres) (hp9 _ res (Or.inr ⟨c25, y, Ls, x, hS, rfl, hres⟩))
      · refine zz_iconst (q := 29) (n := -1) (x := (-1)) C (by decide +kernel) rfl (by decide +kernel) ?_
        refine zz_goto (off := 8) (tgt := 37) C (by decide +kernel) (by decide) ?_
        -- AT 37
        first
          | exact lp37 t9 _ none e9 ht8 hok hap (fun b z => by cases z) (hp9 _ none (Or.inl ⟨c25, rfl, rfl⟩))
          | exact lp37 t9 _ res e9 ht8 hok hap (or_first_60 (fun i h1 => (mo_so_al hW0 hS _ (List.mem_of_getElem? (lst_get h1))).1) hres) (hp9 _ res (Or.inr ⟨c25, y, Ls, x, hS, rfl, hres⟩))
    · refine zz_aload_n (q := 13) (f := 0) (i := 0) C (by decide +kernel) rfl rfl rfl ?_
      refine zz_iconst (q := 14) (n := 1) (x := 1) C (by decide +kernel) rfl (by decide +kernel) ?_
      refine zz_callV (q := 17) C (m_M_refuse l) cv_M_173 (by decide +kernel) rfl rfl rfl (by first | rfl | assumption) (by decide) (by decide) (Nat.le_of_ble_eq_true rfl) ⟨_, _, rfl, ?_⟩
      refine zz_iret C hr hlk (by decide +kernel) hQ (by decide) (by decide) ?_
      exact hp0 (zz_b_f c9)

/-! the reference: places, the next that meets -/
def mIx (h : zz_H) (r s j : Nat) : Prop := j < 60 ∧ ma h r 19 j = nI s ∧ ∀ i, i < j → ma h r 19 i ≠ nI s
def mBh (h : zz_H) (r i : Nat) : Prop := (zz_fI h 7 28 r = 0 ∧ i = 0) ∨ (zz_fI h 7 28 r = 1 ∧ ∃ w j, zz_fI h 7 29 r = nI w ∧ mIx h r w j ∧ i = j + 1) ∨ (zz_fI h 7 28 r = 2 ∧ ∃ w j, zz_fI h 7 29 r = nI w ∧ mIx h r w j ∧ i = j) ∨ (zz_fI h 7 28 r ≠ 0 ∧ zz_fI h 7 28 r ≠ 1 ∧ zz_fI h 7 28 r ≠ 2 ∧ zz_fI h 7 13 r = nI i)
def mGt (h : zz_H) (r : Nat) (bl : Option Nat) (s : Nat) : Prop := (∀ b, bl = some b → mBo h r b 3 (mP h r s)) ∧ mo_meet h r s
def mo_gt (h : zz_H) (r s : Nat) (hd : Int32) : zz_H := zz_pI (zz_pI (zz_pI h 7 28 r 1) 7 29 r (nI s)) 7 30 r (if hd = 0 then -1 else nI s)
theorem mGt_n {h : zz_H} {r s : Nat} {bl : Option Nat} (e : mO bl = -1) (hb : ∀ b, bl = some b → b < 60) (hm : mo_meet h r s) : mGt h r bl s := ⟨fun b z => absurd e (by rw [z]; exact nI_neg (by have := hb b z; omega)), hm⟩
theorem mGt_s {h : zz_H} {r s b : Nat} (e : mBo h r b 3 (mP h r s)) (hm : mo_meet h r s) : mGt h r (some b) s := ⟨fun c z => by cases z; exact e, hm⟩
def mGp (h : zz_H) (r f : Nat) (bl : Option Nat) (hd : Int32) (Ls : List Nat) (post : Option zz_V → zz_H → Prop) : Prop := ∀ res, or_first Ls.length f (fun k => mGt h r bl (Ls.getD k 0)) (fun k => Ls.getD k 0) res → (res = none → post (some (zz_i 0)) h) ∧ ∀ s, res = some s → post (some (zz_i (ma h r 14 s))) (mo_gt h r s hd)
section MG
variable {h : zz_H} {r f k : Nat} {bl : Option Nat} {hd : Int32} {Ls : List Nat} {post : Option zz_V → zz_H → Prop}
theorem mget_0 (hp : mGp h r f bl hd Ls post) (h1 : f ≤ k) (h2 : k < Ls.length) (hG : mGt h r bl (Ls.getD k 0)) (hall : ∀ j, f ≤ j → j < k → ¬ mGt h r bl (Ls.getD j 0)) (e : hd = 0) : post (some (zz_i (ma h r 14 (Ls.getD k 0)))) (zz_pI (zz_pI (zz_pI h 7 28 r 1) 7 29 r (nI (Ls.getD k 0))) 7 30 r (-1)) := by
  have := (hp _ (Or.inr ⟨k, h1, h2, hG, hall, rfl⟩)).2 _ rfl
  rw [mo_gt, if_pos e] at this
  exact this
theorem mget_1 (hp : mGp h r f bl hd Ls post) (h1 : f ≤ k) (h2 : k < Ls.length) (hG : mGt h r bl (Ls.getD k 0)) (hall : ∀ j, f ≤ j → j < k → ¬ mGt h r bl (Ls.getD j 0)) (e : ¬ hd = 0) : post (some (zz_i (ma h r 14 (Ls.getD k 0)))) (zz_pI (zz_pI (zz_pI h 7 28 r 1) 7 29 r (nI (Ls.getD k 0))) 7 30 r (nI (Ls.getD k 0))) := by
  have := (hp _ (Or.inr ⟨k, h1, h2, hG, hall, rfl⟩)).2 _ rfl
  rw [mo_gt, if_neg e] at this
  exact this
end MG
theorem lst_get {Ls : List Nat} {k : Nat} (hk : k < Ls.length) : Ls[k]? = some (Ls.getD k 0) := by
  rw [List.getD_eq_getElem?_getD, List.getElem?_eq_getElem hk]; rfl
def T_M_indexOf : zz_Tr := fun as h post => ∃ r s9 j9, as = [zz_r 7 (some r), zz_i (nI s9)] ∧ mo_ok h r ∧ mIx h r s9 j9 ∧ post (some (zz_i (nI j9))) h
set_option maxRecDepth 100000 in
set_option maxHeartbeats 4000000 in
theorem m_M_indexOf (l : Launch) : zz_Met l y_M_indexOf w_M_indexOf { frames := 1, cells := 0, slots := 0, locals := 12 } T_M_indexOf := by
  refine zz_ofZ (by decide) (fun as h post hT => ?_) ?_
  · obtain ⟨r, s9, j9, rfl, hok, hix, hp⟩ := hT
    exact ⟨by simp [zz_cat], by simp⟩
  · intro D DA h as post hT p e s m args below meth c Q C hr hlk hnm hQ
    obtain ⟨r, s9, j9, rfl, hok, hix, hp⟩ := hT
    have hj60 := hix.1
    have lp2 : ∀ n k, j9 + 1 ≤ n + k → k ≤ j9 → zz_Z p l e { frames := 1, cells := 0, slots := 0, locals := 12 } s m args below meth c Q D DA (zz_A h s.heap.size) h 3 2 [some (zz_r 7 (some r)), some (zz_i (nI s9)), some (zz_i (nI k))] [] h 0 0 := by
      intro n
      induction n with
      | zero =>
        intro k hn hk
        exact absurd hn (by omega)
      | succ n ih =>
        intro k hn hk
        refine zz_aload_n (q := 3) (f := 0) (i := 0) C (by decide +kernel) rfl rfl rfl ?_
        refine zz_getR (q := 6) C gf_M_54 (by decide +kernel) rfl (by first | rfl | assumption) (hok 19 90 60 rfl).1 ?_
        refine zz_iload_n (q := 7) (f := 2) (i := 2) C (by decide +kernel) rfl rfl rfl ?_
        refine zz_iaload (q := 8) C (by decide +kernel) rfl rfl (hok 19 90 60 rfl).2 rfl (by omega) (by decide) rfl ?_
        refine zz_iload_n (q := 9) (f := 1) (i := 1) C (by decide +kernel) rfl rfl rfl ?_
        refine zz_icmp_eq (off := 9) (tgt := 18) (q := 12) C (by decide +kernel) (by decide) rfl (fun c9 => ?_) (fun c9 => ?_)
        · refine zz_iload_n (q := 19) (f := 2) (i := 2) C (by decide +kernel) rfl rfl rfl ?_
          refine zz_iret C hr hlk (by decide +kernel) hQ (by decide) (by decide) ?_
          by_cases hkj : k = j9
          · rw [hkj]; exact hp
          · exact absurd c9 (hix.2.2 k (by omega))
        · refine zz_iinc (q := 15) (i := 2) (n := 1) C (by decide +kernel) rfl rfl (nI_1 _) (by decide) rfl ?_
          refine zz_goto (off := -13) (tgt := 2) C (by decide +kernel) (by decide) ?_
          -- AT 2
          exact ih (k + 1) (by omega) (Nat.lt_of_le_of_ne hk (fun z => c9 (by rw [z]; exact hix.2.1)))
    refine zz_iconst (q := 1) (n := 0) (x := 0) C (by decide +kernel) rfl (by decide +kernel) ?_
    refine zz_istore_n (q := 2) (f := 2) (i := 2) C (by decide +kernel) rfl rfl (by decide) rfl ?_
    -- AT 2
    exact lp2 (j9 + 1) 0 (by omega) (by omega)

def T_M_behind : zz_Tr := fun as h post => ∃ r i, as = [zz_r 7 (some r)] ∧ mo_ok h r ∧ mBh h r i ∧ post (some (zz_i (nI i))) h
set_option maxRecDepth 100000 in
set_option maxHeartbeats 4000000 in
theorem m_M_behind (l : Launch) : zz_Met l y_M_behind w_M_behind { frames := 2, cells := 0, slots := 0, locals := 34 } T_M_behind := by
  refine zz_ofZ (by decide) (fun as h post hT => ?_) ?_
  · obtain ⟨r, i, rfl, hok, hbh, hp⟩ := hT
    exact ⟨by simp [zz_cat], by simp⟩
  · intro D DA h as post hT p e s m args below meth c Q C hr hlk hnm hQ
    obtain ⟨r, i, rfl, hok, hbh, hp⟩ := hT
    refine zz_aload_n (q := 1) (f := 0) (i := 0) C (by decide +kernel) rfl rfl rfl ?_
    refine zz_getI (q := 4) C gf_M_144 (by decide +kernel) rfl (by first | rfl | assumption) rfl ?_
    refine zz_if_ne (off := 7) (tgt := 11) (q := 7) C (by decide +kernel) (by decide) rfl (fun c4 => ?_) (fun c4 => ?_)
    · refine zz_aload_n (q := 12) (f := 0) (i := 0) C (by decide +kernel) rfl rfl rfl ?_
      refine zz_getI (q := 15) C gf_M_144 (by decide +kernel) rfl (by first | rfl | assumption) rfl ?_
      refine zz_iconst (q := 16) (n := 1) (x := 1) C (by decide +kernel) rfl (by decide +kernel) ?_
      refine zz_icmp_ne (off := 16) (tgt := 32) (q := 19) C (by decide +kernel) (by decide) rfl (fun c16 => ?_) (fun c16 => ?_)
      · refine zz_aload_n (q := 33) (f := 0) (i := 0) C (by decide +kernel) rfl rfl rfl ?_
        refine zz_getI (q := 36) C gf_M_144 (by decide +kernel) rfl (by first | rfl | assumption) rfl ?_
        refine zz_iconst (q := 37) (n := 2) (x := 2) C (by decide +kernel) rfl (by decide +kernel) ?_
        refine zz_icmp_ne (off := 14) (tgt := 51) (q := 40) C (by decide +kernel) (by decide) rfl (fun c37 => ?_) (fun c37 => ?_)
        · refine zz_aload_n (q := 52) (f := 0) (i := 0) C (by decide +kernel) rfl rfl rfl ?_
          refine zz_getI (q := 55) C gf_M_153 (by decide +kernel) rfl (by first | rfl | assumption) rfl ?_
          refine zz_iret C hr hlk (by decide +kernel) hQ (by decide) (by decide) ?_
          first
            | (rw [b3] at hp; exact hp)
            | (rcases hbh with z | z | z | z
               · exact absurd z.1 c4
               · exact absurd z.1 c16
               · exact absurd z.1 c37
               · rw [← z.2.2.2] at hp; exact hp)
            | (rcases hbh with z | z | z | z
               · rw [z.2] at hp; exact hp
               · exact absurd (c4.symm.trans z.1) (by decide)
               · exact absurd (c4.symm.trans z.1) (by decide)
               · exact absurd c4 z.1)
        · obtain ⟨w, j9, b1, b2, b3⟩ : ∃ w j, zz_fI h 7 29 r = nI w ∧ mIx h r w j ∧ i = j := by
            rcases hbh with z | z | z | z
            · exact absurd z.1 c4
            · exact absurd z.1 c16
            · exact z.2
            · exact absurd c37 z.2.2.1
          refine zz_aload_n (q := 41) (f := 0) (i := 0) C (by decide +kernel) rfl rfl rfl ?_
          refine zz_aload_n (q := 42) (f := 0) (i := 0) C (by decide +kernel) rfl rfl rfl ?_
          refine zz_getI (q := 45) C gf_M_147 (by decide +kernel) rfl (by first | rfl | assumption) b1 ?_
          refine zz_callV (q := 48) C (m_M_indexOf l) cv_M_150 (by decide +kernel) rfl rfl rfl (by first | rfl | assumption) (by decide) (by decide) (Nat.le_of_ble_eq_true rfl) ⟨_, _, j9, rfl, hok, b2, ?_⟩
          refine zz_goto (off := 7) (tgt := 55) C (by decide +kernel) (by decide) ?_
          refine zz_iret C hr hlk (by decide +kernel) hQ (by decide) (by decide) ?_
          first
            | (rw [b3] at hp; exact hp)
            | (rcases hbh with z | z | z | z
               · exact absurd z.1 c4
               · exact absurd z.1 c16
               · exact absurd z.1 c37
               · rw [← z.2.2.2] at hp; exact hp)
            | (rcases hbh with z | z | z | z
               · rw [z.2] at hp; exact hp
               · exact absurd (c4.symm.trans z.1) (by decide)
               · exact absurd (c4.symm.trans z.1) (by decide)
               · exact absurd c4 z.1)
      · obtain ⟨w, j9, b1, b2, b3⟩ : ∃ w j, zz_fI h 7 29 r = nI w ∧ mIx h r w j ∧ i = j + 1 := by
          rcases hbh with z | z | z | z
          · exact absurd z.1 c4
          · exact z.2
          · exact absurd (c16.symm.trans z.1) (by decide)
          · exact absurd c16 z.2.1
        refine zz_aload_n (q := 20) (f := 0) (i := 0) C (by decide +kernel) rfl rfl rfl ?_
        refine zz_aload_n (q := 21) (f := 0) (i := 0) C (by decide +kernel) rfl rfl rfl ?_
        refine zz_getI (q := 24) C gf_M_147 (by decide +kernel) rfl (by first | rfl | assumption) b1 ?_
        refine zz_callV (q := 27) C (m_M_indexOf l) cv_M_150 (by decide +kernel) rfl rfl rfl (by first | rfl | assumption) (by decide) (by decide) (Nat.le_of_ble_eq_true rfl) ⟨_, _, j9, rfl, hok, b2, ?_⟩
        refine zz_iconst (q := 28) (n := 1) (x := 1) C (by decide +kernel) rfl (by decide +kernel) ?_
        refine zz_iadd (q := 29) C (by decide +kernel) rfl (nI_1 _) ?_
        refine zz_goto (off := 26) (tgt := 55) C (by decide +kernel) (by decide) ?_
        refine zz_iret C hr hlk (by decide +kernel) hQ (by decide) (by decide) ?_
        first
          | (rw [b3] at hp; exact hp)
          | (rcases hbh with z | z | z | z
             · exact absurd z.1 c4
             · exact absurd z.1 c16
             · exact absurd z.1 c37
             · rw [← z.2.2.2] at hp; exact hp)
          | (rcases hbh with z | z | z | z
             · rw [z.2] at hp; exact hp
             · exact absurd (c4.symm.trans z.1) (by decide)
             · exact absurd (c4.symm.trans z.1) (by decide)
             · exact absurd c4 z.1)
    · refine zz_iconst (q := 8) (n := 0) (x := 0) C (by decide +kernel) rfl (by decide +kernel) ?_
      refine zz_goto (off := 47) (tgt := 55) C (by decide +kernel) (by decide) ?_
      refine zz_iret C hr hlk (by decide +kernel) hQ (by decide) (by decide) ?_
      first
        | (rw [b3] at hp; exact hp)
        | (rcases hbh with z | z | z | z
           · exact absurd z.1 c4
           · exact absurd z.1 c16
           · exact absurd z.1 c37
           · rw [← z.2.2.2] at hp; exact hp)
        | (rcases hbh with z | z | z | z
           · rw [z.2] at hp; exact hp
           · exact absurd (c4.symm.trans z.1) (by decide)
           · exact absurd (c4.symm.trans z.1) (by decide)
           · exact absurd c4 z.1)

def T_M_get : zz_Tr := fun as h post => ∃ r f bl hd Ls, as = [zz_r 7 (some r), zz_i (nI f), zz_i (mO bl), zz_i hd] ∧ f ≤ 61 ∧ mo_ok h r ∧ mo_wl h r ∧ mo_wp h r ∧ Ls.length ≤ 60 ∧ zz_fI h 7 13 r = nI Ls.length ∧ mX (mf h r 19) (zz_aI h) 0 Ls ∧ (∀ e ∈ Ls, mLive h r e) ∧ (∀ b, bl = some b → b < 60) ∧ mGp h r f bl hd Ls post
set_option maxRecDepth 100000 in
set_option maxHeartbeats 4000000 in
theorem m_M_get (l : Launch) : zz_Met l y_M_get w_M_get { frames := 5, cells := 0, slots := 0, locals := 104 } T_M_get := by
  refine zz_ofZ (by decide) (fun as h post hT => ?_) ?_
  · obtain ⟨r, f, bl, hd, Ls, rfl, hf61, hok, hwl, hwp, hl60, hmy, hX, hal, hbl, hp⟩ := hT
    exact ⟨by simp [zz_cat], by simp⟩
  · intro D DA h as post hT p e s m args below meth c Q C hr hlk hnm hQ
    obtain ⟨r, f, bl, hd, Ls, rfl, hf61, hok, hwl, hwp, hl60, hmy, hX, hal, hbl, hp⟩ := hT
    have lp3 : ∀ n k v5, 62 ≤ n + k → f ≤ k → k ≤ 61 → (∀ j, f ≤ j → j < k → ¬ mGt h r bl (Ls.getD j 0)) → zz_Z p l e { frames := 5, cells := 0, slots := 0, locals := 104 } s m args below meth c Q D DA (zz_A h s.heap.size) h 6 3 [some (zz_r 7 (some r)), some (zz_i (nI f)), some (zz_i (mO bl)), some (zz_i hd), some (zz_i (nI k)), v5] [] h 0 0 := by
      intro n
      induction n with
      | zero =>
        intro k v5 hn hfk hk61
        exact absurd hn (by omega)
      | succ n ih =>
        intro k v5 hn hfk hk61 hall
        refine zz_iload (q := 5) (i := 4) C (by decide +kernel) rfl rfl ?_
        refine zz_aload_n (q := 6) (f := 0) (i := 0) C (by decide +kernel) rfl rfl rfl ?_
        refine zz_getI (q := 9) C gf_M_153 (by decide +kernel) rfl (by first | rfl | assumption) hmy ?_
        refine zz_icmp_ge (off := 75) (tgt := 84) (q := 12) C (by decide +kernel) (by decide) rfl (fun c9 => ?_) (fun c9 => ?_)
        · refine zz_iconst (q := 85) (n := 0) (x := 0) C (by decide +kernel) rfl (by decide +kernel) ?_
          refine zz_iret C hr hlk (by decide +kernel) hQ (by decide) (by decide) ?_
          exact (hp none (Or.inl ⟨rfl, fun j h1 h2 => hall j h1 (by have := (nI_leI (a := Ls.length) (b := k) (by omega) (by omega)).mp c9; omega)⟩)).1 rfl
        · have hk9 : k < Ls.length := Nat.lt_of_not_le (fun z => c9 (nI_le z (by omega)))
          have hgk := lst_get hk9
          have hle := hal _ (List.mem_of_getElem? hgk)
          have hle60 := hle.1
          have hxv : zz_aI h (mf h r 19) k = nI (Ls.getD k 0) := by
            have := hX k _ hgk
            rwa [Nat.zero_add] at this
          refine zz_aload_n (q := 13) (f := 0) (i := 0) C (by decide +kernel) rfl rfl rfl ?_
          refine zz_getR (q := 16) C gf_M_54 (by decide +kernel) rfl (by first | rfl | assumption) (hok 19 90 60 rfl).1 ?_
          refine zz_iload (q := 18) (i := 4) C (by decide +kernel) rfl rfl ?_
          refine zz_iaload (q := 19) C (by decide +kernel) rfl rfl (hok 19 90 60 rfl).2 rfl (by omega) (by decide) hxv ?_
          refine zz_istore (q := 21) (i := 5) C (by decide +kernel) rfl (by decide) rfl ?_
          refine zz_iload_n (q := 22) (f := 2) (i := 2) C (by decide +kernel) rfl rfl rfl ?_
          refine zz_iconst (q := 23) (n := -1) (x := (-1)) C (by decide +kernel) rfl (by decide +kernel) ?_
          refine zz_icmp_eq (off := 13) (tgt := 36) (q := 26) C (by decide +kernel) (by decide) rfl (fun c23 => ?_) (fun c23 => ?_)
          · refine zz_aload_n (q := 37) (f := 0) (i := 0) C (by decide +kernel) rfl rfl rfl ?_
            refine zz_iload (q := 39) (i := 5) C (by decide +kernel) rfl rfl ?_
            refine zz_callV (q := 42) C (m_M_meets l) cv_M_159 (by decide +kernel) rfl rfl rfl (by first | rfl | assumption) (by decide) (by decide) (Nat.le_of_ble_eq_true rfl) ⟨_, _, rfl, hok, hwl, hwp, hle, ?_⟩
            refine zz_if_eq (off := 36) (tgt := 78) (q := 45) C (by decide +kernel) (by decide) rfl (fun c42 => ?_) (fun c42 => ?_)
            · refine zz_iinc (q := 81) (i := 4) (n := 1) C (by decide +kernel) rfl rfl (nI_1 _) (by decide) rfl ?_
              refine zz_goto (off := -78) (tgt := 3) C (by decide +kernel) (by decide) ?_
              -- AT 3
              first
                | exact ih (k + 1) _ (by omega) (by omega) (by omega) (or_next hall (fun z => zz_b_f c42 z.2))
                | exact ih (k + 1) _ (by omega) (by omega) (by omega) (or_next hall (fun z => zz_b_f c33 (z.1 b9 rfl)))
            · refine zz_aload_n (q := 46) (f := 0) (i := 0) C (by decide +kernel) rfl rfl rfl ?_
              refine zz_iconst (q := 47) (n := 1) (x := 1) C (by decide +kernel) rfl (by decide +kernel) ?_
              refine zz_putI (q := 50) C gf_M_144 (fun h => by cases h) (fun h => by cases h) (by decide +kernel) rfl (by first | rfl | assumption) ?_
              refine zz_aload_n (q := 51) (f := 0) (i := 0) C (by decide +kernel) rfl rfl rfl ?_
              refine zz_iload (q := 53) (i := 5) C (by decide +kernel) rfl rfl ?_
              refine zz_putI (q := 56) C gf_M_147 (fun h => by cases h) (fun h => by cases h) (by decide +kernel) rfl (by first | rfl | assumption) ?_
              refine zz_aload_n (q := 57) (f := 0) (i := 0) C (by decide +kernel) rfl rfl rfl ?_
              refine zz_iload_n (q := 58) (f := 3) (i := 3) C (by decide +kernel) rfl rfl rfl ?_
              refine zz_if_eq (off := 8) (tgt := 66) (q := 61) C (by decide +kernel) (by decide) rfl (fun c58 => ?_) (fun c58 => ?_)
              · refine zz_iconst (q := 67) (n := -1) (x := (-1)) C (by decide +kernel) rfl (by decide +kernel) ?_
                refine zz_putI (q := 70) C gf_M_82 (fun h => by cases h) (fun h => by cases h) (by decide +kernel) rfl (by first | rfl | assumption) ?_
                refine zz_aload_n (q := 71) (f := 0) (i := 0) C (by decide +kernel) rfl rfl rfl ?_
                refine zz_getR (q := 74) C gf_M_39 (by decide +kernel) rfl (by first | rfl | assumption) (hok 14 90 60 rfl).1 ?_
                refine zz_iload (q := 76) (i := 5) C (by decide +kernel) rfl rfl ?_
                refine zz_iaload (q := 77) C (by decide +kernel) rfl rfl (hok 14 90 60 rfl).2 rfl (by omega) (by decide) rfl ?_
                refine zz_iret C hr hlk (by decide +kernel) hQ (by decide) (by decide) ?_
                first
                  | exact mget_0 hp hfk hk9 (mGt_n c23 hbl (zz_b_t c42)) hall c58
                  | exact mget_1 hp hfk hk9 (mGt_n c23 hbl (zz_b_t c42)) hall c58
                  | exact mget_0 hp hfk hk9 (mGt_s (zz_b_t c33) (zz_b_t c42)) hall c58
                  | exact mget_1 hp hfk hk9 (mGt_s (zz_b_t c33) (zz_b_t c42)) hall c58
              · refine zz_iload (q := 63) (i := 5) C (by decide +kernel) rfl rfl ?_
                refine zz_goto (off := 4) (tgt := 67) C (by decide +kernel) (by decide) ?_
                refine zz_putI (q := 70) C gf_M_82 (fun h => by cases h) (fun h => by cases h) (by decide +kernel) rfl (by first | rfl | assumption) ?_
                refine zz_aload_n (q := 71) (f := 0) (i := 0) C (by decide +kernel) rfl rfl rfl ?_
                refine zz_getR (q := 74) C gf_M_39 (by decide +kernel) rfl (by first | rfl | assumption) (hok 14 90 60 rfl).1 ?_
                refine zz_iload (q := 76) (i := 5) C (by decide +kernel) rfl rfl ?_
                refine zz_iaload (q := 77) C (by decide +kernel) rfl rfl (hok 14 90 60 rfl).2 rfl (by omega) (by decide) rfl ?_
                refine zz_iret C hr hlk (by decide +kernel) hQ (by decide) (by decide) ?_
                first
                  | exact mget_0 hp hfk hk9 (mGt_n c23 hbl (zz_b_t c42)) hall c58
                  | exact mget_1 hp hfk hk9 (mGt_n c23 hbl (zz_b_t c42)) hall c58
                  | exact mget_0 hp hfk hk9 (mGt_s (zz_b_t c33) (zz_b_t c42)) hall c58
                  | exact mget_1 hp hfk hk9 (mGt_s (zz_b_t c33) (zz_b_t c42)) hall c58
          · obtain ⟨b9, rfl⟩ := mO_some c23
            refine zz_aload_n (q := 27) (f := 0) (i := 0) C (by decide +kernel) rfl rfl rfl ?_
            refine zz_iload (q := 29) (i := 5) C (by decide +kernel) rfl rfl ?_
            refine zz_iload_n (q := 30) (f := 2) (i := 2) C (by decide +kernel) rfl rfl rfl ?_
            refine zz_callV (q := 33) C (m_M_isBelow l) cv_M_156 (by decide +kernel) rfl rfl rfl (by first | rfl | assumption) (by decide) (by decide) (Nat.le_of_ble_eq_true rfl) ⟨_, _, b9, rfl, hbl b9 rfl, hok, hwl, hle, ?_⟩
            refine zz_if_eq (off := 45) (tgt := 78) (q := 36) C (by decide +kernel) (by decide) rfl (fun c33 => ?_) (fun c33 => ?_)
            · refine zz_iinc (q := 81) (i := 4) (n := 1) C (by decide +kernel) rfl rfl (nI_1 _) (by decide) rfl ?_
              refine zz_goto (off := -78) (tgt := 3) C (by decide +kernel) (by decide) ?_
              -- AT 3
              first
                | exact ih (k + 1) _ (by omega) (by omega) (by omega) (or_next hall (fun z => zz_b_f c42 z.2))
                | exact ih (k + 1) _ (by omega) (by omega) (by omega) (or_next hall (fun z => zz_b_f c33 (z.1 b9 rfl)))
            · refine zz_aload_n (q := 37) (f := 0) (i := 0) C (by decide +kernel) rfl rfl rfl ?_
              refine zz_iload (q := 39) (i := 5) C (by decide +kernel) rfl rfl ?_
              refine zz_callV (q := 42) C (m_M_meets l) cv_M_159 (by decide +kernel) rfl rfl rfl (by first | rfl | assumption) (by decide) (by decide) (Nat.le_of_ble_eq_true rfl) ⟨_, _, rfl, hok, hwl, hwp, hle, ?_⟩
              refine zz_if_eq (off := 36) (tgt := 78) (q := 45) C (by decide +kernel) (by decide) rfl (fun c42 => ?_) (fun c42 => ?_)
              · refine zz_iinc (q := 81) (i := 4) (n := 1) C (by decide +kernel) rfl rfl (nI_1 _) (by decide) rfl ?_
                refine zz_goto (off := -78) (tgt := 3) C (by decide +kernel) (by decide) ?_
                -- AT 3
                first
                  | exact ih (k + 1) _ (by omega) (by omega) (by omega) (or_next hall (fun z => zz_b_f c42 z.2))
                  | exact ih (k + 1) _ (by omega) (by omega) (by omega) (or_next hall (fun z => zz_b_f c33 (z.1 b9 rfl)))
              · refine zz_aload_n (q := 46) (f := 0) (i := 0) C (by decide +kernel) rfl rfl rfl ?_
                refine zz_iconst (q := 47) (n := 1) (x := 1) C (by decide +kernel) rfl (by decide +kernel) ?_
                refine zz_putI (q := 50) C gf_M_144 (fun h => by cases h) (fun h => by cases h) (by decide +kernel) rfl (by first | rfl | assumption) ?_
                refine zz_aload_n (q := 51) (f := 0) (i := 0) C (by decide +kernel) rfl rfl rfl ?_
                refine zz_iload (q := 53) (i := 5) C (by decide +kernel) rfl rfl ?_
                refine zz_putI (q := 56) C gf_M_147 (fun h => by cases h) (fun h => by cases h) (by decide +kernel) rfl (by first | rfl | assumption) ?_
                refine zz_aload_n (q := 57) (f := 0) (i := 0) C (by decide +kernel) rfl rfl rfl ?_
                refine zz_iload_n (q := 58) (f := 3) (i := 3) C (by decide +kernel) rfl rfl rfl ?_
                refine zz_if_eq (off := 8) (tgt := 66) (q := 61) C (by decide +kernel) (by decide) rfl (fun c58 => ?_) (fun c58 => ?_)
                · refine zz_iconst (q := 67) (n := -1) (x := (-1)) C (by decide +kernel) rfl (by decide +kernel) ?_
                  refine zz_putI (q := 70) C gf_M_82 (fun h => by cases h) (fun h => by cases h) (by decide +kernel) rfl (by first | rfl | assumption) ?_
                  refine zz_aload_n (q := 71) (f := 0) (i := 0) C (by decide +kernel) rfl rfl rfl ?_
                  refine zz_getR (q := 74) C gf_M_39 (by decide +kernel) rfl (by first | rfl | assumption) (hok 14 90 60 rfl).1 ?_
                  refine zz_iload (q := 76) (i := 5) C (by decide +kernel) rfl rfl ?_
                  refine zz_iaload (q := 77) C (by decide +kernel) rfl rfl (hok 14 90 60 rfl).2 rfl (by omega) (by decide) rfl ?_
                  refine zz_iret C hr hlk (by decide +kernel) hQ (by decide) (by decide) ?_
                  first
                    | exact mget_0 hp hfk hk9 (mGt_n c23 hbl (zz_b_t c42)) hall c58
                    | exact mget_1 hp hfk hk9 (mGt_n c23 hbl (zz_b_t c42)) hall c58
                    | exact mget_0 hp hfk hk9 (mGt_s (zz_b_t c33) (zz_b_t c42)) hall c58
                    | exact mget_1 hp hfk hk9 (mGt_s (zz_b_t c33) (zz_b_t c42)) hall c58
                · refine zz_iload (q := 63) (i := 5) C (by decide +kernel) rfl rfl ?_
                  refine zz_goto (off := 4) (tgt := 67) C (by decide +kernel) (by decide) ?_
                  refine zz_putI (q := 70) C gf_M_82 (fun h => by cases h) (fun h => by cases h) (by decide +kernel) rfl (by first | rfl | assumption) ?_
                  refine zz_aload_n (q := 71) (f := 0) (i := 0) C (by decide +kernel) rfl rfl rfl ?_
                  refine zz_getR (q := 74) C gf_M_39 (by decide +kernel) rfl (by first | rfl | assumption) (hok 14 90 60 rfl).1 ?_
                  refine zz_iload (q := 76) (i := 5) C (by decide +kernel) rfl rfl ?_
                  refine zz_iaload (q := 77) C (by decide +kernel) rfl rfl (hok 14 90 60 rfl).2 rfl (by omega) (by decide) rfl ?_
                  refine zz_iret C hr hlk (by decide +kernel) hQ (by decide) (by decide) ?_
                  first
                    | exact mget_0 hp hfk hk9 (mGt_n c23 hbl (zz_b_t c42)) hall c58
                    | exact mget_1 hp hfk hk9 (mGt_n c23 hbl (zz_b_t c42)) hall c58
                    | exact mget_0 hp hfk hk9 (mGt_s (zz_b_t c33) (zz_b_t c42)) hall c58
                    | exact mget_1 hp hfk hk9 (mGt_s (zz_b_t c33) (zz_b_t c42)) hall c58
    refine zz_iload_n (q := 1) (f := 1) (i := 1) C (by decide +kernel) rfl rfl rfl ?_
    refine zz_istore (q := 3) (i := 4) C (by decide +kernel) rfl (by decide) rfl ?_
    -- AT 3
    exact lp3 62 f none (by omega) (Nat.le_refl _) hf61 (fun j h1 h2 => absurd h1 (by omega))

/-! the reference: ways up -/
def mP (h : zz_H) (r s : Nat) : Option Nat := if ma h r 16 s = -1 then none else some (ma h r 16 s).toNatClampNeg
theorem nI_neg {x : Nat} (hx : x < 2 ^ 31) : nI x ≠ -1 := fun z => by
  have h1 := nI_toInt hx
  rw [z] at h1
  have h2 : (-1 : Int32).toInt = -1 := by decide +kernel
  omega
theorem mP_no {h : zz_H} {r s : Nat} (e : ma h r 16 s = -1) : mP h r s = none := if_pos e
theorem mP_so {h : zz_H} {r s p : Nat} (hp : p < 60) (e : ma h r 16 s = nI p) : mP h r s = some p := by
  rw [mP, e, if_neg (nI_neg (by omega)), nI_clamp (by omega)]
def mAt (h : zz_H) (r l : Nat) : Nat → Nat → Nat
  | 0, s => s
  | n + 1, s => if mLv h r s ≤ l then s else match mP h r s with
    | none => s
    | some p => mAt h r l n p
theorem mAt_le {h : zz_H} {r l n s : Nat} (hl : mLv h r s ≤ l) : mAt h r l n s = s := by cases n <;> simp [mAt, hl]
theorem mAt_go {h : zz_H} {r l n s p : Nat} (hl : ¬ mLv h r s ≤ l) (hp : mP h r s = some p) : mAt h r l (n + 1) s = mAt h r l n p := by simp [mAt, hl, hp]
def mO (o : Option Nat) : Int32 := match o with
  | none => -1
  | some x => nI x
/-- p stands on the way up from o -/
def mBo (h : zz_H) (r p : Nat) : Nat → Option Nat → Prop
  | _, none => False
  | 0, some x => x = p
  | n + 1, some x => x = p ∨ mBo h r p n (mP h r x)
/-- all on the way up from o fit -/
def mFo (h : zz_H) (r : Nat) : Nat → Option Nat → Prop
  | _, none => True
  | 0, some x => mo_fit h r x
  | n + 1, some x => mo_fit h r x ∧ mFo h r n (mP h r x)
def mGo (h : zz_H) (r n : Nat) (o : Option Nat) : Prop := ∀ x, o = some x → mLive h r x ∧ mLv h r x ≤ n
theorem mGo_up {h : zz_H} {r n x : Nat} (hwl : mo_wl h r) (hx : mLive h r x) (hn : mLv h r x ≤ n + 1) : ma h r 16 x = mO (mP h r x) ∧ mGo h r n (mP h r x) := by
  obtain ⟨-, -, -, e4, -, ⟨e6, -⟩ | ⟨p, e6, e7, e8⟩⟩ := hwl x hx
  · rw [mP_no e6]; exact ⟨e6, fun y hy => by cases hy⟩
  · rw [mP_so e6.1 e7]; exact ⟨e7, fun y hy => by cases hy; exact ⟨e6, by omega⟩⟩
theorem mO_none {h : zz_H} {r n : Nat} {o : Option Nat} (hg : mGo h r n o) (e : mO o = -1) : o = none := by
  cases o with
  | none => rfl
  | some x => exact absurd e (nI_neg (by have := (hg x rfl).1.1; omega))
theorem mO_some {o : Option Nat} (e : ¬ mO o = -1) : ∃ x, o = some x := by
  cases o with
  | none => exact absurd rfl e
  | some x => exact ⟨x, rfl⟩
def T_M_rootOf : zz_Tr := fun as h post => ∃ r s9, as = [zz_r 7 (some r), zz_i (nI s9)] ∧ mo_ok h r ∧ mo_wl h r ∧ mLive h r s9 ∧ post (some (zz_i (nI (mAt h r 1 3 s9)))) h
set_option maxRecDepth 100000 in
set_option maxHeartbeats 4000000 in
theorem m_M_rootOf (l : Launch) : zz_Met l y_M_rootOf w_M_rootOf { frames := 1, cells := 0, slots := 0, locals := 12 } T_M_rootOf := by
  refine zz_ofZ (by decide) (fun as h post hT => ?_) ?_
  · obtain ⟨r, s9, rfl, hok, hwl, hlv, hp⟩ := hT
    exact ⟨by simp [zz_cat], by simp⟩
  · intro D DA h as post hT p e s m args below meth c Q C hr hlk hnm hQ
    obtain ⟨r, s9, rfl, hok, hwl, hlv, hp⟩ := hT
    have lp2 : ∀ n x, mLive h r x → mLv h r x ≤ n + 1 → post (some (zz_i (nI (mAt h r 1 n x)))) h → zz_Z p l e { frames := 1, cells := 0, slots := 0, locals := 12 } s m args below meth c Q D DA (zz_A h s.heap.size) h 3 2 [some (zz_r 7 (some r)), some (zz_i (nI s9)), some (zz_i (nI x))] [] h 0 0 := by
      intro n
      induction n with
      | zero =>
        intro x hlx hn hp
        have hx60 := hlx.1
        obtain ⟨-, -, -, e4, e5, e6⟩ := hwl x hlx
        have e7 : ma h r 16 x = -1 := by
          rcases e6 with e6 | ⟨p, g1, g2, g3⟩
          · exact e6.1
          · obtain ⟨-, -, -, f4, -, -⟩ := hwl p g1
            exact absurd g3 (by omega)
        refine zz_aload_n (q := 3) (f := 0) (i := 0) C (by decide +kernel) rfl rfl rfl ?_
        refine zz_getR (q := 6) C gf_M_45 (by decide +kernel) rfl rfl (hok 16 90 60 rfl).1 ?_
        refine zz_iload_n (q := 7) (f := 2) (i := 2) C (by decide +kernel) rfl rfl rfl ?_
        refine zz_iaload (q := 8) C (by decide +kernel) rfl rfl (hok 16 90 60 rfl).2 rfl (by omega) (by decide) e7 ?_
        refine zz_iconst (q := 9) (n := -1) (x := (-1)) C (by decide +kernel) rfl (by decide +kernel) ?_
        refine zz_icmp_eq (off := 13) (tgt := 22) (q := 12) C (by decide +kernel) (by decide) rfl (fun c9 => ?_) (fun c9 => absurd rfl c9)
        refine zz_iload_n (q := 23) (f := 2) (i := 2) C (by decide +kernel) rfl rfl rfl ?_
        exact zz_iret C hr hlk (by decide +kernel) hQ (by decide) (by decide) hp
      | succ n ih =>
        intro x hlx hn hp
        have hx60 := hlx.1
        obtain ⟨-, -, -, e4, e5, e6⟩ := hwl x hlx
        refine zz_aload_n (q := 3) (f := 0) (i := 0) C (by decide +kernel) rfl rfl rfl ?_
        refine zz_getR (q := 6) C gf_M_45 (by decide +kernel) rfl (by first | rfl | assumption) (hok 16 90 60 rfl).1 ?_
        refine zz_iload_n (q := 7) (f := 2) (i := 2) C (by decide +kernel) rfl rfl rfl ?_
        refine zz_iaload (q := 8) C (by decide +kernel) rfl rfl (hok 16 90 60 rfl).2 rfl (by omega) (by decide) rfl ?_
        refine zz_iconst (q := 9) (n := -1) (x := (-1)) C (by decide +kernel) rfl (by decide +kernel) ?_
        refine zz_icmp_eq (off := 13) (tgt := 22) (q := 12) C (by decide +kernel) (by decide) rfl (fun c9 => ?_) (fun c9 => ?_)
        · refine zz_iload_n (q := 23) (f := 2) (i := 2) C (by decide +kernel) rfl rfl rfl ?_
          refine zz_iret C hr hlk (by decide +kernel) hQ (by decide) (by decide) ?_
          rcases e6 with e6 | ⟨p, g1, g2, g3⟩
          · rw [mAt_le (by omega)] at hp; exact hp
          · exact absurd (g2.symm.trans c9) (nI_neg (by have := g1.1; omega))
        · obtain ⟨p9, g1, g2, g3⟩ := e6.resolve_left (fun z => c9 z.1)
          refine zz_aload_n (q := 13) (f := 0) (i := 0) C (by decide +kernel) rfl rfl rfl ?_
          refine zz_getR (q := 16) C gf_M_45 (by decide +kernel) rfl (by first | rfl | assumption) (hok 16 90 60 rfl).1 ?_
          refine zz_iload_n (q := 17) (f := 2) (i := 2) C (by decide +kernel) rfl rfl rfl ?_
          refine zz_iaload (q := 18) C (by decide +kernel) rfl rfl (hok 16 90 60 rfl).2 rfl (by omega) (by decide) g2 ?_
          refine zz_istore_n (q := 19) (f := 2) (i := 2) C (by decide +kernel) rfl rfl (by decide) rfl ?_
          refine zz_goto (off := -17) (tgt := 2) C (by decide +kernel) (by decide) ?_
          -- AT 2
          refine ih p9 g1 (by omega) ?_
          rw [mAt_go (by obtain ⟨-, -, -, f4, -, -⟩ := hwl p9 g1; omega) (mP_so g1.1 g2)] at hp
          exact hp
    refine zz_iload_n (q := 1) (f := 1) (i := 1) C (by decide +kernel) rfl rfl rfl ?_
    refine zz_istore_n (q := 2) (f := 2) (i := 2) C (by decide +kernel) rfl rfl (by decide) rfl ?_
    -- AT 2
    exact lp2 3 s9 hlv (by obtain ⟨-, -, -, -, e5, -⟩ := hwl s9 hlv; omega) hp

def T_M_atLevel : zz_Tr := fun as h post => ∃ r s9 l9, as = [zz_r 7 (some r), zz_i (nI s9), zz_i (nI l9)] ∧ 1 ≤ l9 ∧ l9 ≤ 4 ∧ mo_ok h r ∧ mo_wl h r ∧ mLive h r s9 ∧ post (some (zz_i (nI (mAt h r l9 3 s9)))) h
set_option maxRecDepth 100000 in
set_option maxHeartbeats 4000000 in
theorem m_M_atLevel (l : Launch) : zz_Met l y_M_atLevel w_M_atLevel { frames := 1, cells := 0, slots := 0, locals := 12 } T_M_atLevel := by
  refine zz_ofZ (by decide) (fun as h post hT => ?_) ?_
  · obtain ⟨r, s9, l9, rfl, hl1, hl4, hok, hwl, hlv, hp⟩ := hT
    exact ⟨by simp [zz_cat], by simp⟩
  · intro D DA h as post hT p e s m args below meth c Q C hr hlk hnm hQ
    obtain ⟨r, s9, l9, rfl, hl1, hl4, hok, hwl, hlv, hp⟩ := hT
    have lp2 : ∀ k n x, n < k → mLive h r x → mLv h r x ≤ n + 1 → post (some (zz_i (nI (mAt h r l9 n x)))) h → zz_Z p l e { frames := 1, cells := 0, slots := 0, locals := 12 } s m args below meth c Q D DA (zz_A h s.heap.size) h 4 2 [some (zz_r 7 (some r)), some (zz_i (nI s9)), some (zz_i (nI l9)), some (zz_i (nI x))] [] h 0 0 := by
      intro k
      induction k with
      | zero =>
        intro n x hn
        exact absurd hn (by omega)
      | succ k ih =>
        intro n x hn hlx hnl hp
        have hx60 := hlx.1
        obtain ⟨e1, e2, e3, e4, e5, e6⟩ := hwl x hlx
        refine zz_aload_n (q := 3) (f := 0) (i := 0) C (by decide +kernel) rfl rfl rfl ?_
        refine zz_getR (q := 6) C gf_M_17 (by decide +kernel) rfl (by first | rfl | assumption) (hok 3 90 8 rfl).1 ?_
        refine zz_aload_n (q := 7) (f := 0) (i := 0) C (by decide +kernel) rfl rfl rfl ?_
        refine zz_getR (q := 10) C gf_M_42 (by decide +kernel) rfl (by first | rfl | assumption) (hok 15 90 60 rfl).1 ?_
        refine zz_iload_n (q := 11) (f := 3) (i := 3) C (by decide +kernel) rfl rfl rfl ?_
        refine zz_iaload (q := 12) C (by decide +kernel) rfl rfl (hok 15 90 60 rfl).2 rfl (by omega) (by decide) e1 ?_
        refine zz_iaload (q := 13) C (by decide +kernel) rfl rfl (hok 3 90 8 rfl).2 rfl e2 (by decide) e3 ?_
        refine zz_iload_n (q := 14) (f := 2) (i := 2) C (by decide +kernel) rfl rfl rfl ?_
        refine zz_icmp_le (off := 13) (tgt := 27) (q := 17) C (by decide +kernel) (by decide) rfl (fun c14 => ?_) (fun c14 => ?_)
        · refine zz_iload_n (q := 28) (f := 3) (i := 3) C (by decide +kernel) rfl rfl rfl ?_
          refine zz_iret C hr hlk (by decide +kernel) hQ (by decide) (by decide) ?_
          rw [mAt_le ((nI_leI (by omega) (by omega)).mp c14)] at hp
          exact hp
        · have hlt : ¬ mLv h r x ≤ l9 := fun z => c14 (nI_le z (by omega))
          obtain ⟨p9, g1, g2, g3⟩ := e6.resolve_left (fun z => hlt (by omega))
          obtain ⟨n9, rfl⟩ : ∃ n9, n = n9 + 1 := ⟨n - 1, by omega⟩
          refine zz_aload_n (q := 18) (f := 0) (i := 0) C (by decide +kernel) rfl rfl rfl ?_
          refine zz_getR (q := 21) C gf_M_45 (by decide +kernel) rfl (by first | rfl | assumption) (hok 16 90 60 rfl).1 ?_
          refine zz_iload_n (q := 22) (f := 3) (i := 3) C (by decide +kernel) rfl rfl rfl ?_
          refine zz_iaload (q := 23) C (by decide +kernel) rfl rfl (hok 16 90 60 rfl).2 rfl (by omega) (by decide) g2 ?_
          refine zz_istore_n (q := 24) (f := 3) (i := 3) C (by decide +kernel) rfl rfl (by decide) rfl ?_
          refine zz_goto (off := -22) (tgt := 2) C (by decide +kernel) (by decide) ?_
          -- AT 2
          refine ih n9 p9 (by omega) g1 (by omega) ?_
          rw [mAt_go hlt (mP_so g1.1 g2)] at hp
          exact hp
    refine zz_iload_n (q := 1) (f := 1) (i := 1) C (by decide +kernel) rfl rfl rfl ?_
    refine zz_istore_n (q := 2) (f := 3) (i := 3) C (by decide +kernel) rfl rfl (by decide) rfl ?_
    -- AT 2
    exact lp2 4 3 s9 (by omega) hlv (by obtain ⟨-, -, -, -, e5, -⟩ := hwl s9 hlv; omega) hp

def T_M_isBelow : zz_Tr := fun as h post => ∃ r s9 p9, as = [zz_r 7 (some r), zz_i (nI s9), zz_i (nI p9)] ∧ p9 < 60 ∧ mo_ok h r ∧ mo_wl h r ∧ mLive h r s9 ∧ post (some (zz_i (zz_b (mBo h r p9 3 (mP h r s9))))) h
set_option maxRecDepth 100000 in
set_option maxHeartbeats 4000000 in
theorem m_M_isBelow (l : Launch) : zz_Met l y_M_isBelow w_M_isBelow { frames := 1, cells := 0, slots := 0, locals := 12 } T_M_isBelow := by
  refine zz_ofZ (by decide) (fun as h post hT => ?_) ?_
  · obtain ⟨r, s9, p9, rfl, hp60, hok, hwl, hlv, hp⟩ := hT
    exact ⟨by simp [zz_cat], by simp⟩
  · intro D DA h as post hT p e s m args below meth c Q C hr hlk hnm hQ
    obtain ⟨r, s9, p9, rfl, hp60, hok, hwl, hlv, hp⟩ := hT
    have hs60 := hlv.1
    have hu := mGo_up (n := 3) hwl hlv (by obtain ⟨-, -, -, -, e5, -⟩ := hwl s9 hlv; omega)
    have lp7 : ∀ n o9, mGo h r n o9 → post (some (zz_i (zz_b (mBo h r p9 n o9)))) h → zz_Z p l e { frames := 1, cells := 0, slots := 0, locals := 12 } s m args below meth c Q D DA (zz_A h s.heap.size) h 4 7 [some (zz_r 7 (some r)), some (zz_i (nI s9)), some (zz_i (nI p9)), some (zz_i (mO o9))] [] h 0 0 := by
      intro n
      induction n with
      | zero =>
        intro o9 hg hp
        have ho : o9 = none := by
          cases o9 with
          | none => rfl
          | some x =>
            obtain ⟨g1, g2⟩ := hg x rfl
            obtain ⟨-, -, -, f4, -, -⟩ := hwl x g1
            exact absurd g2 (by omega)
        subst ho
        refine zz_iload_n (q := 8) (f := 3) (i := 3) C (by decide +kernel) rfl rfl rfl ?_
        refine zz_iconst (q := 9) (n := -1) (x := (-1)) C (by decide +kernel) rfl (by decide +kernel) ?_
        refine zz_icmp_eq (off := 18) (tgt := 27) (q := 12) C (by decide +kernel) (by decide) rfl (fun c9 => ?_) (fun c9 => absurd rfl c9)
        refine zz_iload_n (q := 28) (f := 3) (i := 3) C (by decide +kernel) rfl rfl rfl ?_
        refine zz_iconst (q := 29) (n := -1) (x := (-1)) C (by decide +kernel) rfl (by decide +kernel) ?_
        refine zz_icmp_eq (off := 7) (tgt := 36) (q := 32) C (by decide +kernel) (by decide) rfl (fun c29 => ?_) (fun c29 => absurd rfl c29)
        refine zz_iconst (q := 37) (n := 0) (x := 0) C (by decide +kernel) rfl (by decide +kernel) ?_
        exact zz_zret C hr hlk (by decide +kernel) (by decide) hQ (by decide) (by decide) (zz_b0 (P := fun x => post (some (zz_i x)) h) hp (fun z => z))
      | succ n ih =>
        intro o9 hg hp
        refine zz_iload_n (q := 8) (f := 3) (i := 3) C (by decide +kernel) rfl rfl rfl ?_
        refine zz_iconst (q := 9) (n := -1) (x := (-1)) C (by decide +kernel) rfl (by decide +kernel) ?_
        refine zz_icmp_eq (off := 18) (tgt := 27) (q := 12) C (by decide +kernel) (by decide) rfl (fun c9 => ?_) (fun c9 => ?_)
        · refine zz_iload_n (q := 28) (f := 3) (i := 3) C (by decide +kernel) rfl rfl rfl ?_
          refine zz_iconst (q := 29) (n := -1) (x := (-1)) C (by decide +kernel) rfl (by decide +kernel) ?_
          refine zz_icmp_eq (off := 7) (tgt := 36) (q := 32) C (by decide +kernel) (by decide) rfl (fun c29 => ?_) (fun c29 => ?_)
          · refine zz_iconst (q := 37) (n := 0) (x := 0) C (by decide +kernel) rfl (by decide +kernel) ?_
            refine zz_zret C hr hlk (by decide +kernel) (by decide) hQ (by decide) (by decide) ?_
            first
              | exact zz_b1 (P := fun x => post (some (zz_i x)) h) hp (Or.inl ((nI_eq (by omega) (by omega)).mp c14))
              | (rw [mO_none hg c9] at hp; exact zz_b0 (P := fun x => post (some (zz_i x)) h) hp (fun z => z))
              | exact absurd c29 c9
              | exact absurd c9 c29
          · refine zz_iconst (q := 33) (n := 1) (x := 1) C (by decide +kernel) rfl (by decide +kernel) ?_
            refine zz_goto (off := 4) (tgt := 37) C (by decide +kernel) (by decide) ?_
            refine zz_zret C hr hlk (by decide +kernel) (by decide) hQ (by decide) (by decide) ?_
            first
              | exact zz_b1 (P := fun x => post (some (zz_i x)) h) hp (Or.inl ((nI_eq (by omega) (by omega)).mp c14))
              | (rw [mO_none hg c9] at hp; exact zz_b0 (P := fun x => post (some (zz_i x)) h) hp (fun z => z))
              | exact absurd c29 c9
              | exact absurd c9 c29
        · obtain ⟨x, rfl⟩ := mO_some c9
          obtain ⟨g1, g2⟩ := hg x rfl
          have hx60 := g1.1
          refine zz_iload_n (q := 13) (f := 3) (i := 3) C (by decide +kernel) rfl rfl rfl ?_
          refine zz_iload_n (q := 14) (f := 2) (i := 2) C (by decide +kernel) rfl rfl rfl ?_
          refine zz_icmp_eq (off := 13) (tgt := 27) (q := 17) C (by decide +kernel) (by decide) rfl (fun c14 => ?_) (fun c14 => ?_)
          · refine zz_iload_n (q := 28) (f := 3) (i := 3) C (by decide +kernel) rfl rfl rfl ?_
            refine zz_iconst (q := 29) (n := -1) (x := (-1)) C (by decide +kernel) rfl (by decide +kernel) ?_
            refine zz_icmp_eq (off := 7) (tgt := 36) (q := 32) C (by decide +kernel) (by decide) rfl (fun c29 => ?_) (fun c29 => ?_)
            · refine zz_iconst (q := 37) (n := 0) (x := 0) C (by decide +kernel) rfl (by decide +kernel) ?_
              refine zz_zret C hr hlk (by decide +kernel) (by decide) hQ (by decide) (by decide) ?_
              first
                | exact zz_b1 (P := fun x => post (some (zz_i x)) h) hp (Or.inl ((nI_eq (by omega) (by omega)).mp c14))
                | (rw [mO_none hg c9] at hp; exact zz_b0 (P := fun x => post (some (zz_i x)) h) hp (fun z => z))
                | exact absurd c29 c9
                | exact absurd c9 c29
            · refine zz_iconst (q := 33) (n := 1) (x := 1) C (by decide +kernel) rfl (by decide +kernel) ?_
              refine zz_goto (off := 4) (tgt := 37) C (by decide +kernel) (by decide) ?_
              refine zz_zret C hr hlk (by decide +kernel) (by decide) hQ (by decide) (by decide) ?_
              first
                | exact zz_b1 (P := fun x => post (some (zz_i x)) h) hp (Or.inl ((nI_eq (by omega) (by omega)).mp c14))
                | (rw [mO_none hg c9] at hp; exact zz_b0 (P := fun x => post (some (zz_i x)) h) hp (fun z => z))
                | exact absurd c29 c9
                | exact absurd c9 c29
          · have hu9 := mGo_up (n := n) hwl g1 g2
            refine zz_aload_n (q := 18) (f := 0) (i := 0) C (by decide +kernel) rfl rfl rfl ?_
            refine zz_getR (q := 21) C gf_M_45 (by decide +kernel) rfl (by first | rfl | assumption) (hok 16 90 60 rfl).1 ?_
            refine zz_iload_n (q := 22) (f := 3) (i := 3) C (by decide +kernel) rfl rfl rfl ?_
            refine zz_iaload (q := 23) C (by decide +kernel) rfl rfl (hok 16 90 60 rfl).2 rfl (by omega) (by decide) hu9.1 ?_
            refine zz_istore_n (q := 24) (f := 3) (i := 3) C (by decide +kernel) rfl rfl (by decide) rfl ?_
            refine zz_goto (off := -17) (tgt := 7) C (by decide +kernel) (by decide) ?_
            -- AT 7
            refine ih (mP h r x) hu9.2 ?_
            by_cases hb : mBo h r p9 n (mP h r x)
            · rw [zz_bT hb]; exact zz_b1 (P := fun x => post (some (zz_i x)) h) hp (Or.inr hb)
            · rw [zz_bF hb]; exact zz_b0 (P := fun x => post (some (zz_i x)) h) hp (fun z => z.elim (fun w => c14 (by rw [w]; rfl)) hb)
    refine zz_aload_n (q := 1) (f := 0) (i := 0) C (by decide +kernel) rfl rfl rfl ?_
    refine zz_getR (q := 4) C gf_M_45 (by decide +kernel) rfl (by first | rfl | assumption) (hok 16 90 60 rfl).1 ?_
    refine zz_iload_n (q := 5) (f := 1) (i := 1) C (by decide +kernel) rfl rfl rfl ?_
    refine zz_iaload (q := 6) C (by decide +kernel) rfl rfl (hok 16 90 60 rfl).2 rfl (by omega) (by decide) hu.1 ?_
    refine zz_istore_n (q := 7) (f := 3) (i := 3) C (by decide +kernel) rfl rfl (by decide) rfl ?_
    -- AT 7
    exact lp7 3 (mP h r s9) hu.2 hp

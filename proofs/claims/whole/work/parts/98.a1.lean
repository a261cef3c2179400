/-! forests: ways from the root, ranks among siblings, the order of all -/
theorem mCnt_mono {P Q : Nat → Prop} : ∀ n, (∀ i, i < n → P i → Q i) → mCnt P n ≤ mCnt Q n
  | 0, _ => Nat.le_refl _
  | n + 1, h => by
    have ih := mCnt_mono (P := P) (Q := Q) n (fun i hi => h i (by omega))
    by_cases hp : P n
    · rw [mCnt_s P n hp, mCnt_s Q n (h n (by omega) hp)]; omega
    · by_cases hq : Q n
      · rw [mCnt_n P n hp, mCnt_s Q n hq]; omega
      · rw [mCnt_n P n hp, mCnt_n Q n hq]; exact ih
theorem mCnt_lt {P Q : Nat → Prop} : ∀ n, (∀ i, i < n → P i → Q i) → (∃ j, j < n ∧ Q j ∧ ¬ P j) → mCnt P n < mCnt Q n
  | 0, _, ⟨j, hj, _⟩ => absurd hj (by omega)
  | n + 1, h, ⟨j, hj, hq, hp⟩ => by
    rcases Nat.lt_succ_iff_lt_or_eq.mp hj with hj | rfl
    · have ih := mCnt_lt (P := P) (Q := Q) n (fun i hi => h i (by omega)) ⟨j, hj, hq, hp⟩
      by_cases hp : P n
      · rw [mCnt_s P n hp, mCnt_s Q n (h n (by omega) hp)]; omega
      · by_cases hq : Q n
        · rw [mCnt_n P n hp, mCnt_s Q n hq]; omega
        · rw [mCnt_n P n hp, mCnt_n Q n hq]; exact ih
    · have := mCnt_mono (P := P) (Q := Q) j (fun i hi => h i (by omega))
      rw [mCnt_n P j hp, mCnt_s Q j hq]; omega
theorem mCnt_eq {P Q : Nat → Prop} (n : Nat) (h : ∀ i, i < n → (P i ↔ Q i)) : mCnt P n = mCnt Q n := Nat.le_antisymm (mCnt_mono n (fun i hi => (h i hi).mp)) (mCnt_mono n (fun i hi => (h i hi).mpr))
/-- live nodes, levels, parents -/
def fo_wf (live : Nat → Prop) (par : Nat → Option Nat) (lv : Nat → Nat) : Prop := ∀ s, live s → s < 60 ∧ 1 ≤ lv s ∧ lv s ≤ 4 ∧ ((par s = none ∧ lv s = 1) ∨ ∃ p, par s = some p ∧ live p ∧ lv p + 1 = lv s)
/-- siblings stand in a strict order -/
def fo_sb (live : Nat → Prop) (par : Nat → Option Nat) (sib : Nat → Nat → Prop) : Prop := (∀ a, live a → ¬ sib a a) ∧ (∀ a b, live a → live b → par a = par b → a ≠ b → sib a b ∨ sib b a) ∧ ∀ a b d, live a → live b → live d → par a = par b → par b = par d → sib a b → sib b d → sib a d
def fo_ch (par : Nat → Option Nat) : Nat → Nat → List Nat
  | 0, s => [s]
  | n + 1, s => match par s with
    | none => [s]
    | some p => fo_ch par n p ++ [s]
def fo_at (par : Nat → Option Nat) (lv : Nat → Nat) (l : Nat) : Nat → Nat → Nat
  | 0, s => s
  | n + 1, s => if lv s ≤ l then s else match par s with
    | none => s
    | some p => fo_at par lv l n p
def fo_F (par : Nat → Option Nat) (lv : Nat → Nat) (sib : Nat → Nat → Prop) (a b : Nat) : Nat → Nat → Prop
  | 0, _ => lv a < lv b
  | n + 1, l => (l ≤ lv a ∧ l ≤ lv b ∧ ((fo_at par lv l 3 a = fo_at par lv l 3 b ∧ fo_F par lv sib a b n (l + 1)) ∨ (fo_at par lv l 3 a ≠ fo_at par lv l 3 b ∧ sib (fo_at par lv l 3 a) (fo_at par lv l 3 b)))) ∨ (¬ (l ≤ lv a ∧ l ≤ lv b) ∧ lv a < lv b)
section FO
variable {live : Nat → Prop} {par : Nat → Option Nat} {lv : Nat → Nat} {sib : Nat → Nat → Prop}
theorem fo_ch_fuel (hw : fo_wf live par lv) : ∀ n s, live s → lv s ≤ n + 1 → fo_ch par (n + 1) s = fo_ch par n s
  | 0, s, hs, hl => by
    obtain ⟨-, -, -, ⟨h1, h2⟩ | ⟨p, h1, h2, h3⟩⟩ := hw s hs
    · simp [fo_ch, h1]
    · have := (hw p h2).2.1; omega
  | n + 1, s, hs, hl => by
    obtain ⟨-, -, -, ⟨h1, h2⟩ | ⟨p, h1, h2, h3⟩⟩ := hw s hs
    · simp [fo_ch, h1]
    · have := fo_ch_fuel hw n p h2 (by omega)
      show (match par s with | none => [s] | some p => fo_ch par (n + 1) p ++ [s]) = (match par s with | none => [s] | some p => fo_ch par n p ++ [s])
      rw [h1]
      show fo_ch par (n + 1) p ++ [s] = fo_ch par n p ++ [s]
      rw [this]
/-- the way from the root -/
def fo_c (par : Nat → Option Nat) (s : Nat) : List Nat := fo_ch par 3 s
theorem fo_c_none {s : Nat} (h1 : par s = none) : fo_c par s = [s] := by simp [fo_c, fo_ch, h1]
theorem fo_c_some (hw : fo_wf live par lv) {s p : Nat} (hs : live s) (h1 : par s = some p) : fo_c par s = fo_c par p ++ [s] := by
  obtain ⟨-, -, h4, ⟨h2, h3⟩ | ⟨p', h2, h3, h5⟩⟩ := hw s hs
  · rw [h1] at h2; cases h2
  · rw [h1] at h2; cases h2
    show (match par s with | none => [s] | some p => fo_ch par 2 p ++ [s]) = _
    rw [h1]
    show fo_ch par 2 p ++ [s] = fo_ch par 3 p ++ [s]
    rw [fo_ch_fuel hw 2 p h3 (by omega)]
/-- induction along the ways -/
theorem fo_ind (hw : fo_wf live par lv) {P : Nat → Prop} (h0 : ∀ s, live s → par s = none → lv s = 1 → P s) (h1 : ∀ s p, live s → par s = some p → live p → lv p + 1 = lv s → P p → P s) : ∀ s, live s → P s := by
  have key : ∀ n s, live s → lv s ≤ n → P s := by
    intro n
    induction n with
    | zero => intro s hs hl; have := (hw s hs).2.1; omega
    | succ n ih =>
      intro s hs hl
      obtain ⟨-, -, -, ⟨g1, g2⟩ | ⟨p, g1, g2, g3⟩⟩ := hw s hs
      · exact h0 s hs g1 g2
      · exact h1 s p hs g1 g2 g3 (ih p g2 (by omega))
  exact fun s hs => key (lv s) s hs (Nat.le_refl _)
theorem fo_len (hw : fo_wf live par lv) : ∀ s, live s → (fo_c par s).length = lv s := by
  refine fo_ind hw (fun s hs h1 h2 => ?_) (fun s p hs h1 h2 h3 ih => ?_)
  · rw [fo_c_none h1, h2]; rfl
  · rw [fo_c_some hw hs h1, List.length_append, ih]; exact h3
theorem fo_last (hw : fo_wf live par lv) {s : Nat} (hs : live s) : (fo_c par s)[lv s - 1]? = some s := by
  obtain ⟨-, -, -, ⟨g1, g2⟩ | ⟨p, g1, g2, g3⟩⟩ := hw s hs
  · rw [fo_c_none g1, g2]; rfl
  · rw [fo_c_some hw hs g1, List.getElem?_append_right (by rw [fo_len hw p g2]; omega), fo_len hw p g2]
    rw [show lv s - 1 - lv p = 0 by omega]; rfl
theorem fo_at_c (hw : fo_wf live par lv) (l : Nat) (h1 : 1 ≤ l) : ∀ n s, live s → lv s ≤ n + 1 → l ≤ lv s → (fo_c par s)[l - 1]? = some (fo_at par lv l n s)
  | 0, s, hs, hn, hl => by
    have : l = lv s := by omega
    rw [this]; exact fo_last hw hs
  | n + 1, s, hs, hn, hl => by
    rw [fo_at]
    by_cases h2 : lv s ≤ l
    · rw [if_pos h2, show l = lv s by omega]; exact fo_last hw hs
    · rw [if_neg h2]
      obtain ⟨-, -, -, ⟨g1, g2⟩ | ⟨p, g1, g2, g3⟩⟩ := hw s hs
      · omega
      · rw [g1]
        show _ = some (fo_at par lv l n p)
        rw [fo_c_some hw hs g1, List.getElem?_append_left (by rw [fo_len hw p g2]; omega)]
        exact fo_at_c hw l h1 n p g2 (by omega) (by omega)
/-- every place on a way is a live node with its own way -/
theorem fo_mem (hw : fo_wf live par lv) : ∀ s, live s → ∀ i a, (fo_c par s)[i]? = some a → live a ∧ lv a = i + 1 ∧ fo_c par a = (fo_c par s).take (i + 1) := by
  refine fo_ind hw (fun s hs h1 h2 i a ha => ?_) (fun s p hs h1 h2 h3 ih i a ha => ?_)
  · rw [fo_c_none h1] at ha ⊢
    cases i with
    | zero =>
      have : s = a := by simpa using ha
      subst this
      exact ⟨hs, by omega, by rw [fo_c_none h1]; rfl⟩
    | succ i => simp at ha
  · rw [fo_c_some hw hs h1] at ha ⊢
    by_cases hi : i < (fo_c par p).length
    · rw [List.getElem?_append_left hi] at ha
      obtain ⟨e1, e2, e3⟩ := ih i a ha
      exact ⟨e1, e2, by rw [e3, List.take_append_of_le_length (by omega)]⟩
    · rw [List.getElem?_append_right (by omega)] at ha
      have hlen := fo_len hw p h2
      have hi0 : i - (fo_c par p).length = 0 := by
        cases e : i - (fo_c par p).length with
        | zero => rfl
        | succ k => rw [e] at ha; simp at ha
      rw [hi0] at ha
      have : s = a := by simpa using ha
      subst this
      refine ⟨hs, by omega, ?_⟩
      rw [fo_c_some hw hs h1, List.take_of_length_le (by rw [List.length_append]; simp; omega)]
/-- how many siblings stand in front -/
noncomputable def fo_rk (live : Nat → Prop) (par : Nat → Option Nat) (sib : Nat → Nat → Prop) (s : Nat) : Int := (mCnt (fun t => live t ∧ par t = par s ∧ sib t s) 60 : Nat)
theorem fo_rk_lt (hw : fo_wf live par lv) (hb : fo_sb live par sib) {a b : Nat} (ha : live a) (hl : live b) (hp : par a = par b) (hs : sib a b) : fo_rk live par sib a < fo_rk live par sib b := by
  unfold fo_rk
  have := mCnt_lt (P := fun t => live t ∧ par t = par a ∧ sib t a) (Q := fun t => live t ∧ par t = par b ∧ sib t b) 60 (fun i _ ⟨h1, h2, h3⟩ => ⟨h1, h2.trans hp, hb.2.2 i a b h1 ha hl h2 hp h3 hs⟩) ⟨a, (hw a ha).1, ⟨ha, hp, hs⟩, fun ⟨_, _, z⟩ => hb.1 a ha z⟩
  omega
theorem fo_rk_iff (hw : fo_wf live par lv) (hb : fo_sb live par sib) {a b : Nat} (ha : live a) (hl : live b) (hp : par a = par b) : sib a b ↔ fo_rk live par sib a < fo_rk live par sib b := by
  refine ⟨fo_rk_lt hw hb ha hl hp, fun z => ?_⟩
  by_cases e : a = b
  · subst e; omega
  · rcases hb.2.1 a b ha hl hp e with h | h
    · exact h
    · have := fo_rk_lt hw hb hl ha hp.symm h; omega
theorem fo_rk_inj (hw : fo_wf live par lv) (hb : fo_sb live par sib) {a b : Nat} (ha : live a) (hl : live b) (hp : par a = par b) (e : fo_rk live par sib a = fo_rk live par sib b) : a = b := by
  by_cases h : a = b
  · exact h
  · rcases hb.2.1 a b ha hl hp h with h | h
    · have := fo_rk_lt hw hb ha hl hp h; omega
    · have := fo_rk_lt hw hb hl ha hp.symm h; omega
noncomputable def fo_k (live : Nat → Prop) (par : Nat → Option Nat) (sib : Nat → Nat → Prop) (s : Nat) : List Int := (fo_c par s).map (fo_rk live par sib)
theorem fo_k_none {s : Nat} (h1 : par s = none) : fo_k live par sib s = [fo_rk live par sib s] := by rw [fo_k, fo_c_none h1]; rfl
theorem fo_k_some (hw : fo_wf live par lv) {s p : Nat} (hs : live s) (h1 : par s = some p) : fo_k live par sib s = fo_k live par sib p ++ [fo_rk live par sib s] := by rw [fo_k, fo_c_some hw hs h1, List.map_append]; rfl
theorem fo_k_len (hw : fo_wf live par lv) {s : Nat} (hs : live s) : (fo_k live par sib s).length = lv s := by rw [fo_k, List.length_map, fo_len hw s hs]
theorem fo_k_inj (hw : fo_wf live par lv) (hb : fo_sb live par sib) : ∀ a, live a → ∀ b, live b → fo_k live par sib a = fo_k live par sib b → a = b := by
  refine fo_ind hw (fun a ha h1 h2 b hl e => ?_) (fun a p ha h1 h2 h3 ih b hl e => ?_)
  · have e2 : lv a = lv b := by rw [← fo_k_len (sib := sib) hw ha, ← fo_k_len (sib := sib) hw hl, e]
    obtain ⟨-, -, -, ⟨g1, g2⟩ | ⟨q, g1, g2, g3⟩⟩ := hw b hl
    · rw [fo_k_none h1, fo_k_none g1] at e
      exact fo_rk_inj hw hb ha hl (h1.trans g1.symm) (List.cons.inj e).1
    · have := (hw q g2).2.1; omega
  · have e2 : lv a = lv b := by rw [← fo_k_len (sib := sib) hw ha, ← fo_k_len (sib := sib) hw hl, e]
    obtain ⟨-, -, -, ⟨g1, g2⟩ | ⟨q, g1, g2, g3⟩⟩ := hw b hl
    · have := (hw p h2).2.1; omega
    · rw [fo_k_some hw ha h1, fo_k_some hw hl g1] at e
      obtain ⟨e3, e4⟩ := List.append_inj e (by rw [fo_k_len hw h2, fo_k_len hw g2]; omega)
      have : p = q := ih q g2 e3
      subst this
      exact fo_rk_inj hw hb ha hl (h1.trans g1.symm) (List.cons.inj e4).1
/-- the order of all -/
def fo_R (live : Nat → Prop) (par : Nat → Option Nat) (sib : Nat → Nat → Prop) (a b : Nat) : Prop := od_lx (fo_k live par sib a) (fo_k live par sib b)
theorem fo_R_tot (hw : fo_wf live par lv) (hb : fo_sb live par sib) {a b : Nat} (ha : live a) (hl : live b) (hne : a ≠ b) : fo_R live par sib a b ∨ fo_R live par sib b a := by
  rcases od_tot (fo_k live par sib a) (fo_k live par sib b) with h | h | h
  · exact Or.inl h
  · exact absurd (fo_k_inj hw hb a ha b hl h) hne
  · exact Or.inr h
theorem fo_drop {α : Type} {xs : List α} {i : Nat} {a : α} (h : xs[i]? = some a) : xs.drop i = a :: xs.drop (i + 1) := by
  obtain ⟨h1, h2⟩ := List.getElem?_eq_some_iff.mp h
  rw [← h2]
  exact List.drop_eq_getElem_cons h1
/-- the walk by levels tells the order -/
theorem fo_F_R (hw : fo_wf live par lv) (hb : fo_sb live par sib) {a b : Nat} (ha : live a) (hl : live b) : ∀ n l, l + n = 5 → 1 ≤ l → (∀ i, i + 1 < l → (fo_c par a)[i]? = (fo_c par b)[i]?) → (l - 1 ≤ lv a ∧ l - 1 ≤ lv b) → (fo_F par lv sib a b n l ↔ od_lx ((fo_k live par sib a).drop (l - 1)) ((fo_k live par sib b).drop (l - 1)))
  | 0, l, h5, h1, hag, hle => by
    have h4a := (hw a ha).2.2.1
    have h4b := (hw b hl).2.2.1
    have k1 := fo_k_len (sib := sib) hw ha
    have k2 := fo_k_len (sib := sib) hw hl
    rw [List.drop_of_length_le (by omega), List.drop_of_length_le (by omega)]
    show lv a < lv b ↔ False
    exact ⟨fun z => by omega, False.elim⟩
  | n + 1, l, h5, h1, hag, hle => by
    have k1 := fo_k_len (sib := sib) hw ha
    have k2 := fo_k_len (sib := sib) hw hl
    have h4a := (hw a ha).2.2.1
    have h4b := (hw b hl).2.2.1
    by_cases ho : l ≤ lv a ∧ l ≤ lv b
    · have ea := fo_at_c hw l h1 3 a ha (by omega) ho.1
      have eb := fo_at_c hw l h1 3 b hl (by omega) ho.2
      have ka : (fo_k live par sib a)[l - 1]? = some (fo_rk live par sib (fo_at par lv l 3 a)) := by rw [fo_k, List.getElem?_map, ea]; rfl
      have kb : (fo_k live par sib b)[l - 1]? = some (fo_rk live par sib (fo_at par lv l 3 b)) := by rw [fo_k, List.getElem?_map, eb]; rfl
      rw [fo_drop ka, fo_drop kb]
      show (_ ∨ _) ↔ (_ ∨ _)
      obtain ⟨la, va, ca⟩ := fo_mem hw a ha _ _ ea
      obtain ⟨lb, vb, cb⟩ := fo_mem hw b hl _ _ eb
      by_cases he : fo_at par lv l 3 a = fo_at par lv l 3 b
      · have ih := fo_F_R hw hb ha hl n (l + 1) (by omega) (by omega) (fun i hi => by
          by_cases hi2 : i + 1 < l
          · exact hag i hi2
          · rw [show i = l - 1 by omega, ea, eb, he]) (by omega)
        have e9 : l - 1 + 1 = l + 1 - 1 := by omega
        rw [e9]
        constructor
        · rintro (⟨-, -, ⟨-, z⟩ | ⟨z, -⟩⟩ | ⟨z, -⟩)
          · exact Or.inr ⟨by rw [he], ih.mp z⟩
          · exact absurd he z
          · exact absurd ho z
        · rintro (z | ⟨-, z⟩)
          · rw [he] at z; omega
          · exact Or.inl ⟨ho.1, ho.2, Or.inl ⟨he, ih.mpr z⟩⟩
      · have hpar : par (fo_at par lv l 3 a) = par (fo_at par lv l 3 b) := by
          obtain ⟨-, -, -, ⟨g1, g2⟩ | ⟨q, g1, g2, g3⟩⟩ := hw _ la
          · obtain ⟨-, -, -, ⟨f1, f2⟩ | ⟨q', f1, f2, f3⟩⟩ := hw _ lb
            · rw [g1, f1]
            · have := (hw q' f2).2.1; omega
          · obtain ⟨-, -, -, ⟨f1, f2⟩ | ⟨q', f1, f2, f3⟩⟩ := hw _ lb
            · have := (hw q g2).2.1; omega
            · rw [g1, f1]
              have cq := fo_c_some hw la g1
              have cq' := fo_c_some hw lb f1
              have l2 : 2 ≤ l := by have := (hw q g2).2.1; omega
              have n1 := fo_len hw q g2
              have n2 := fo_len hw q' f2
              have e1 : (fo_c par a)[l - 2]? = some q := by
                have : ((fo_c par a).take (l - 1 + 1))[l - 2]? = (fo_c par q ++ [fo_at par lv l 3 a])[l - 2]? := by rw [← ca, cq]
                rw [List.getElem?_take_of_lt (by omega), List.getElem?_append_left (by omega)] at this
                rw [this, show l - 2 = lv q - 1 by omega]
                exact fo_last hw g2
              have e2 : (fo_c par b)[l - 2]? = some q' := by
                have : ((fo_c par b).take (l - 1 + 1))[l - 2]? = (fo_c par q' ++ [fo_at par lv l 3 b])[l - 2]? := by rw [← cb, cq']
                rw [List.getElem?_take_of_lt (by omega), List.getElem?_append_left (by omega)] at this
                rw [this, show l - 2 = lv q' - 1 by omega]
                exact fo_last hw f2
              have := hag (l - 2) (by omega)
              rw [e1, e2] at this
              exact this
        have hi := fo_rk_iff hw hb la lb hpar
        constructor
        · rintro (⟨-, -, ⟨z, -⟩ | ⟨-, z⟩⟩ | ⟨z, -⟩)
          · exact absurd z he
          · exact Or.inl (hi.mp z)
          · exact absurd ho z
        · rintro (z | ⟨z, -⟩)
          · exact Or.inl ⟨ho.1, ho.2, Or.inr ⟨he, hi.mpr z⟩⟩
          · exact absurd (fo_rk_inj hw hb la lb hpar z) he
    · have hF : fo_F par lv sib a b (n + 1) l ↔ lv a < lv b := by
        constructor
        · rintro (⟨z1, z2, -⟩ | ⟨-, z⟩)
          · exact absurd ⟨z1, z2⟩ ho
          · exact z
        · exact fun z => Or.inr ⟨ho, z⟩
      rw [hF]
      by_cases h9 : lv a < l
      · have d1 : (fo_k live par sib a).drop (l - 1) = [] := List.drop_of_length_le (by omega)
        rw [d1]
        by_cases h8 : lv b < l
        · have d2 : (fo_k live par sib b).drop (l - 1) = [] := List.drop_of_length_le (by omega)
          rw [d2]
          exact ⟨fun z => by omega, False.elim⟩
        · obtain ⟨v, hv⟩ : ∃ v, (fo_k live par sib b)[l - 1]? = some v := ⟨_, List.getElem?_eq_getElem (by omega)⟩
          rw [fo_drop hv]
          exact ⟨fun _ => trivial, fun _ => by omega⟩
      · obtain ⟨v, hv⟩ : ∃ v, (fo_k live par sib a)[l - 1]? = some v := ⟨_, List.getElem?_eq_getElem (by omega)⟩
        have d2 : (fo_k live par sib b).drop (l - 1) = [] := List.drop_of_length_le (by omega)
        rw [fo_drop hv, d2]
        exact ⟨fun z => by omega, False.elim⟩
theorem fo_F_iff (hw : fo_wf live par lv) (hb : fo_sb live par sib) {a b : Nat} (ha : live a) (hl : live b) : fo_F par lv sib a b 4 1 ↔ fo_R live par sib a b := by
  have := fo_F_R hw hb ha hl 4 1 rfl (by omega) (fun i hi => by omega) (by omega)
  exact this
end FO
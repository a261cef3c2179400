/-! forests: what sorting gives; roots in another order -/
section FS
variable {live : Nat → Prop} {par : Nat → Option Nat} {lv : Nat → Nat} {sib sib0 sib1 : Nat → Nat → Prop}
theorem mSrt_R (hw : fo_wf live par lv) (hb : fo_sb live par sib) {F : Nat → Nat → Prop} (hF : ∀ a b, live a → live b → (F a b ↔ fo_R live par sib a b)) : ∀ n Ls, mSrt F live n Ls → Ls.Pairwise (fo_R live par sib) ∧ ∀ s, s ∈ Ls ↔ s < n ∧ live s
  | 0, Ls, hs => by
    have : Ls = [] := hs
    subst this
    exact ⟨List.Pairwise.nil, fun s => ⟨fun h => (by cases h), fun h => (by omega)⟩⟩
  | n + 1, Ls, hs => by
    rcases hs with ⟨h1, L0, h2, A, B, rfl, rfl, h3, h4⟩ | ⟨h1, h2⟩
    · obtain ⟨g1, g2⟩ := mSrt_R hw hb hF n _ h2
      obtain ⟨p1, p2, p3⟩ := List.pairwise_append.mp g1
      have lA : ∀ e ∈ A, e < n ∧ live e := fun e he => (g2 e).mp (List.mem_append_left _ he)
      have lB : ∀ e ∈ B, e < n ∧ live e := fun e he => (g2 e).mp (List.mem_append_right _ he)
      have hA : ∀ e ∈ A, fo_R live par sib e n := by
        rcases h4 with rfl | ⟨A', e9, rfl, hno⟩
        · intro e he; cases he
        · obtain ⟨q1, q2⟩ := lA e9 (by simp)
          have h9 : fo_R live par sib e9 n := (fo_R_tot hw hb q2 h1 (by omega)).resolve_right (fun z => hno ((hF n e9 h1 q2).mpr z))
          intro e he
          rcases List.mem_append.mp he with he | he
          · exact fo_R_tr ((List.pairwise_append.mp p1).2.2 e he e9 (by simp)) h9
          · have : e = e9 := by simpa using he
            rw [this]; exact h9
      refine ⟨List.pairwise_append.mpr ⟨p1, List.pairwise_cons.mpr ⟨fun e he => (hF n e h1 (lB e he).2).mp (h3 e he), p2⟩, fun a ha b hb' => ?_⟩, fun s => ?_⟩
      · rcases List.mem_cons.mp hb' with rfl | hb'
        · exact hA a ha
        · exact p3 a ha b hb'
      · constructor
        · intro hs
          rcases List.mem_append.mp hs with hs | hs
          · have := lA s hs; exact ⟨by omega, this.2⟩
          · rcases List.mem_cons.mp hs with rfl | hs
            · exact ⟨by omega, h1⟩
            · have := lB s hs; exact ⟨by omega, this.2⟩
        · rintro ⟨q1, q2⟩
          by_cases e : s = n
          · rw [e]; simp
          · have := (g2 s).mpr ⟨by omega, q2⟩
            rcases List.mem_append.mp this with h | h
            · exact List.mem_append_left _ h
            · exact List.mem_append_right _ (List.mem_cons_of_mem _ h)
    · obtain ⟨g1, g2⟩ := mSrt_R hw hb hF n _ h2
      refine ⟨g1, fun s => ?_⟩
      rw [g2 s]
      constructor
      · rintro ⟨q1, q2⟩; exact ⟨by omega, q2⟩
      · rintro ⟨q1, q2⟩
        refine ⟨?_, q2⟩
        rcases Nat.lt_succ_iff_lt_or_eq.mp q1 with q1 | rfl
        · exact q1
        · exact absurd q2 h1
theorem fo_uniq {L1 L2 : List Nat} (h1 : L1.Pairwise (fo_R live par sib)) (h2 : L2.Pairwise (fo_R live par sib)) (h : ∀ x, x ∈ L1 ↔ x ∈ L2) : L1 = L2 := od_uniq (R := fo_R live par sib) (fun a => fo_R_irr a) (fun _ _ _ => fo_R_tr) L1 L2 h1 h2 h
/-- the root -/
def fo_ro (par : Nat → Option Nat) (lv : Nat → Nat) (s : Nat) : Nat := fo_at par lv 1 3 s
theorem fo_ro_lv (hw : fo_wf live par lv) {s : Nat} (hs : live s) : live (fo_ro par lv s) ∧ par (fo_ro par lv s) = none ∧ fo_in par (fo_ro par lv s) s := by
  have h1 := (hw s hs).2
  have e := fo_at_c hw 1 (by omega) 3 s hs (by omega) h1.1
  obtain ⟨l1, l2, l3⟩ := fo_mem hw s hs _ _ e
  refine ⟨l1, ?_, ⟨(fo_c par s).drop 1, ?_⟩⟩
  · obtain ⟨-, -, -, ⟨g1, g2⟩ | ⟨q, g1, g2, g3⟩⟩ := hw _ l1
    · exact g1
    · have := (hw q g2).2.1; omega
  · show fo_c par s = fo_c par (fo_at par lv 1 3 s) ++ _
    rw [l3, List.take_append_drop]
theorem fo_ro_in (hw : fo_wf live par lv) {t s : Nat} (ht : live t) (h0 : par t = none) (hs : live s) : fo_in par t s ↔ fo_ro par lv s = t := by
  have h1 : lv t = 1 := by
    obtain ⟨-, -, -, ⟨g1, g2⟩ | ⟨q, g1, g2, g3⟩⟩ := hw t ht
    · exact g2
    · rw [h0] at g1; cases g1
  rw [fo_in_at hw ht hs, h1]
  exact ⟨fun z => z.2, fun z => ⟨(hw s hs).2.1, z⟩⟩
theorem fo_ro_ne (hw : fo_wf live par lv) (hb : fo_sb live par sib) {a b : Nat} (ha : live a) (hl : live b) (hne : fo_ro par lv a ≠ fo_ro par lv b) : fo_R live par sib a b ↔ sib (fo_ro par lv a) (fo_ro par lv b) := by
  rw [← fo_F_iff hw hb ha hl]
  have h1 := (hw a ha).2.1
  have h2 := (hw b hl).2.1
  constructor
  · rintro (⟨-, -, ⟨z, -⟩ | ⟨-, z⟩⟩ | ⟨z, -⟩)
    · exact absurd z hne
    · exact z
    · exact absurd ⟨h1, h2⟩ z
  · exact fun z => Or.inl ⟨h1, h2, Or.inr ⟨hne, z⟩⟩
theorem fo_F_same (hs : ∀ a b, par a ≠ none → (sib1 a b ↔ sib0 a b)) (hw : fo_wf live par lv) {a b : Nat} (ha : live a) (hl : live b) : ∀ n l, 2 ≤ l → (fo_F par lv sib1 a b n l ↔ fo_F par lv sib0 a b n l)
  | 0, l, _ => Iff.rfl
  | n + 1, l, h2 => by
    have ih := fo_F_same hs hw ha hl n (l + 1) (by omega)
    unfold fo_F
    by_cases ho : l ≤ lv a ∧ l ≤ lv b
    · have h4 := (hw a ha).2.2.1
      have ea := fo_at_c hw l (by omega) 3 a ha (by omega) ho.1
      obtain ⟨la, va, -⟩ := fo_mem hw a ha _ _ ea
      have hp : par (fo_at par lv l 3 a) ≠ none := fun z => by
        obtain ⟨-, -, -, ⟨g1, g2⟩ | ⟨q, g1, g2, g3⟩⟩ := hw _ la
        · omega
        · rw [z] at g1; cases g1
      rw [ih, hs _ _ hp]
    · constructor
      · rintro (⟨z1, z2, -⟩ | z)
        · exact absurd ⟨z1, z2⟩ ho
        · exact Or.inr z
      · rintro (⟨z1, z2, -⟩ | z)
        · exact absurd ⟨z1, z2⟩ ho
        · exact Or.inr z
theorem fo_ro_eq (hs : ∀ a b, par a ≠ none → (sib1 a b ↔ sib0 a b)) (hw : fo_wf live par lv) (hb0 : fo_sb live par sib0) (hb1 : fo_sb live par sib1) {a b : Nat} (ha : live a) (hl : live b) (he : fo_ro par lv a = fo_ro par lv b) : fo_R live par sib1 a b ↔ fo_R live par sib0 a b := by
  rw [← fo_F_iff hw hb1 ha hl, ← fo_F_iff hw hb0 ha hl]
  have ih := fo_F_same hs hw ha hl 3 2 (by omega)
  unfold fo_F
  rw [ih]
  constructor
  · rintro (⟨z1, z2, ⟨z3, z4⟩ | ⟨z3, z4⟩⟩ | z)
    · exact Or.inl ⟨z1, z2, Or.inl ⟨z3, z4⟩⟩
    · exact absurd he z3
    · exact Or.inr z
  · rintro (⟨z1, z2, ⟨z3, z4⟩ | ⟨z3, z4⟩⟩ | z)
    · exact Or.inl ⟨z1, z2, Or.inl ⟨z3, z4⟩⟩
    · exact absurd he z3
    · exact Or.inr z
/-- two orders that differ among the roots with Q alone -/
def fo_two (par : Nat → Option Nat) (Q : Nat → Prop) (sib0 sib1 : Nat → Nat → Prop) : Prop := (∀ a b, ¬ (par a = none ∧ Q a ∧ Q b) → (sib1 a b ↔ sib0 a b)) ∧ ∀ a a' b, Q a → Q a' → ¬ Q b → (sib0 a b → sib0 a' b) ∧ (sib0 b a → sib0 b a')
theorem fo_two_R {Q : Nat → Prop} (h2 : fo_two par Q sib0 sib1) (hw : fo_wf live par lv) (hb0 : fo_sb live par sib0) (hb1 : fo_sb live par sib1) {a b : Nat} (ha : live a) (hl : live b) (h : fo_ro par lv a = fo_ro par lv b ∨ ¬ (Q (fo_ro par lv a) ∧ Q (fo_ro par lv b))) : fo_R live par sib1 a b ↔ fo_R live par sib0 a b := by
  have hs : ∀ a b, par a ≠ none → (sib1 a b ↔ sib0 a b) := fun a b hp => h2.1 a b (fun z => hp z.1)
  by_cases he : fo_ro par lv a = fo_ro par lv b
  · exact fo_ro_eq hs hw hb0 hb1 ha hl he
  · rw [fo_ro_ne hw hb1 ha hl he, fo_ro_ne hw hb0 ha hl he]
    exact h2.1 _ _ (fun z => (h.resolve_left he) z.2)
theorem pw_flat {R : Nat → Nat → Prop} {f : Nat → List Nat} {S : Nat → Nat → Prop} : ∀ {rs : List Nat}, (∀ r ∈ rs, (f r).Pairwise R) → (∀ r r' a b, r ∈ rs → r' ∈ rs → S r r' → a ∈ f r → b ∈ f r' → R a b) → rs.Pairwise S → (rs.flatMap f).Pairwise R
  | [], _, _, _ => List.Pairwise.nil
  | r :: rs, h1, h2, h3 => by
    obtain ⟨p1, p2⟩ := List.pairwise_cons.mp h3
    rw [List.flatMap_cons]
    refine List.pairwise_append.mpr ⟨h1 r List.mem_cons_self, pw_flat (fun q hq => h1 q (List.mem_cons_of_mem _ hq)) (fun q q' a b hq hq' => h2 q q' a b (List.mem_cons_of_mem _ hq) (List.mem_cons_of_mem _ hq')) p2, fun a ha b hb => ?_⟩
    obtain ⟨q, hq, hb⟩ := List.mem_flatMap.mp hb
    exact h2 r q a b List.mem_cons_self (List.mem_cons_of_mem _ hq) (p1 q hq) ha hb
/-- the front part, the trees of the roots with Q in their new order, the back part -/
theorem fo_arr {Q : Nat → Prop} (h2 : fo_two par Q sib0 sib1) (hw : fo_wf live par lv) (hb0 : fo_sb live par sib0) (hb1 : fo_sb live par sib1) {A M C rs : List Nat} (hL : ∀ e, e ∈ A ++ M ++ C ↔ live e) (hp : (A ++ M ++ C).Pairwise (fo_R live par sib0))
    (hA : ∀ e ∈ A, ¬ Q (fo_ro par lv e)) (hM : ∀ e ∈ M, Q (fo_ro par lv e)) (hC : ∀ e ∈ C, ¬ Q (fo_ro par lv e)) (hrs : rs.Pairwise sib1) (hmem : ∀ r, r ∈ rs ↔ live r ∧ par r = none ∧ Q r) :
    (A ++ rs.flatMap (fun r => pf (fo_in par r) (A ++ M ++ C)) ++ C).Pairwise (fo_R live par sib1) ∧ ∀ e, e ∈ A ++ rs.flatMap (fun r => pf (fo_in par r) (A ++ M ++ C)) ++ C ↔ live e := by
  have same := fun {a b : Nat} (ha : live a) (hl : live b) h => fo_two_R h2 hw hb0 hb1 ha hl h
  have lA : ∀ e ∈ A, live e := fun e he => (hL e).mp (by simp [he])
  have lC : ∀ e ∈ C, live e := fun e he => (hL e).mp (by simp [he])
  have tr : ∀ r e, r ∈ rs → (e ∈ pf (fo_in par r) (A ++ M ++ C) ↔ live e ∧ fo_ro par lv e = r) := fun r e hr => by
    obtain ⟨r1, r2, r3⟩ := (hmem r).mp hr
    rw [pf_mem, hL e]
    constructor
    · rintro ⟨q1, q2⟩; exact ⟨q1, (fo_ro_in hw r1 r2 q1).mp q2⟩
    · rintro ⟨q1, q2⟩; exact ⟨q1, (fo_ro_in hw r1 r2 q1).mpr q2⟩
  have hMm : ∀ e, live e → Q (fo_ro par lv e) → e ∈ M := fun e he hq => by
    have h9 := (hL e).mpr he
    rcases List.mem_append.mp h9 with h9 | h9
    · rcases List.mem_append.mp h9 with h9 | h9
      · exact absurd hq (hA e h9)
      · exact h9
    · exact absurd hq (hC e h9)
  have fm : ∀ e, e ∈ rs.flatMap (fun r => pf (fo_in par r) (A ++ M ++ C)) ↔ live e ∧ Q (fo_ro par lv e) := fun e => by
    rw [List.mem_flatMap]
    constructor
    · rintro ⟨r, hr, he⟩
      obtain ⟨q1, q2⟩ := (tr r e hr).mp he
      exact ⟨q1, by rw [q2]; exact ((hmem r).mp hr).2.2⟩
    · rintro ⟨q1, q2⟩
      obtain ⟨g1, g2, -⟩ := fo_ro_lv hw q1
      exact ⟨fo_ro par lv e, (hmem _).mpr ⟨g1, g2, q2⟩, (tr _ e ((hmem _).mpr ⟨g1, g2, q2⟩)).mpr ⟨q1, rfl⟩⟩
  obtain ⟨p1, p2, p3⟩ := List.pairwise_append.mp hp
  obtain ⟨p4, p5, p6⟩ := List.pairwise_append.mp p1
  refine ⟨List.pairwise_append.mpr ⟨List.pairwise_append.mpr ⟨?_, ?_, ?_⟩, ?_, ?_⟩, ?_⟩
  · exact List.Pairwise.imp_of_mem (fun {a b} ha hb' hab => (same (lA a ha) (lA b hb') (Or.inr (fun z => hA a ha z.1))).mpr hab) p4
  · refine pw_flat (S := sib1) (fun r hr => ?_) (fun r r' a b hr hr' hs ha hb' => ?_) hrs
    · refine List.Pairwise.imp_of_mem (fun {a b} ha hb' hab => ?_) (pf_pw (P := fo_in par r) hp)
      obtain ⟨a1, a2⟩ := (tr r a hr).mp ha
      obtain ⟨b1, b2⟩ := (tr r b hr).mp hb'
      exact (same a1 b1 (Or.inl (a2.trans b2.symm))).mpr hab
    · obtain ⟨a1, a2⟩ := (tr r a hr).mp ha
      obtain ⟨b1, b2⟩ := (tr r' b hr').mp hb'
      have hne : fo_ro par lv a ≠ fo_ro par lv b := fun z => by
        rw [a2, b2] at z
        rw [z] at hs
        exact hb1.1 r' ((hmem r').mp hr').1 hs
      rw [fo_ro_ne hw hb1 a1 b1 hne, a2, b2]; exact hs
  · intro a ha b hb'
    obtain ⟨b1, b2⟩ := (fm b).mp hb'
    exact (same (lA a ha) b1 (Or.inr (fun z => hA a ha z.1))).mpr (p6 a ha b (hMm b b1 b2))
  · exact List.Pairwise.imp_of_mem (fun {a b} ha hb' hab => (same (lC a ha) (lC b hb') (Or.inr (fun z => hC a ha z.1))).mpr hab) p2
  · intro a ha b hb'
    rcases List.mem_append.mp ha with ha | ha
    · exact (same (lA a ha) (lC b hb') (Or.inr (fun z => hA a ha z.1))).mpr (p3 a (by simp [ha]) b hb')
    · obtain ⟨a1, a2⟩ := (fm a).mp ha
      exact (same a1 (lC b hb') (Or.inr (fun z => hC b hb' z.2))).mpr (p3 a (by simp [hMm a a1 a2]) b hb')
  · intro e
    rw [List.mem_append, List.mem_append, fm e]
    constructor
    · rintro ((h | h) | h)
      · exact lA e h
      · exact h.1
      · exact lC e h
    · intro he
      by_cases hq : Q (fo_ro par lv e)
      · exact Or.inl (Or.inr ⟨he, hq⟩)
      · have h9 := (hL e).mpr he
        rcases List.mem_append.mp h9 with h9 | h9
        · rcases List.mem_append.mp h9 with h9 | h9
          · exact Or.inl (Or.inl h9)
          · exact absurd (hM e h9) hq
        · exact Or.inr h9
/-- where the first with such a root stands parts the list in three -/
theorem fo_parts {Q : Nat → Prop} (h2 : fo_two par Q sib0 sib1) (hw : fo_wf live par lv) (hb0 : fo_sb live par sib0) {L : List Nat} (hL : ∀ e, e ∈ L → live e) (hp : L.Pairwise (fo_R live par sib0)) {p : Nat} (h1 : ∀ (j e : Nat), L[j]? = some e → j < p → ¬ Q (fo_ro par lv e)) (h3 : ∀ e, L[p]? = some e → Q (fo_ro par lv e)) :
    ∃ M C, L = L.take p ++ M ++ C ∧ (∀ e ∈ L.take p, ¬ Q (fo_ro par lv e)) ∧ (∀ e ∈ M, Q (fo_ro par lv e)) ∧ ∀ e ∈ C, ¬ Q (fo_ro par lv e) := by
  refine ⟨pf (fun e => Q (fo_ro par lv e)) (L.drop p), pf (fun e => ¬ Q (fo_ro par lv e)) (L.drop p), ?_, fun e he => ?_, fun e he => (pf_mem.mp he).2, fun e he => (pf_mem.mp he).2⟩
  · have hd : L.drop p = pf (fun e => Q (fo_ro par lv e)) (L.drop p) ++ pf (fun e => ¬ Q (fo_ro par lv e)) (L.drop p) := by
      apply pf_sp
      cases hq : L[p]? with
      | none =>
        have : L.drop p = [] := List.drop_of_length_le (List.getElem?_eq_none_iff.mp hq)
        rw [this]; exact List.Pairwise.nil
      | some g =>
        have hg := h3 g hq
        have hd9 := fo_drop hq
        have hpd : (L.drop p).Pairwise (fo_R live par sib0) := List.Pairwise.sublist (List.drop_sublist p L) hp
        have lg := hL g (List.mem_of_getElem? hq)
        have hall : ∀ e ∈ L.drop p, e = g ∨ fo_R live par sib0 g e := fun e he => by
          rw [hd9] at he hpd
          rcases List.mem_cons.mp he with rfl | he
          · exact Or.inl rfl
          · exact Or.inr ((List.pairwise_cons.mp hpd).1 e he)
        refine List.Pairwise.imp_of_mem (fun {a b} ha hb' hab hQb => ?_) hpd
        have la := hL a (List.mem_of_mem_drop ha)
        have lb := hL b (List.mem_of_mem_drop hb')
        by_cases hQa : Q (fo_ro par lv a)
        · exact hQa
        · exfalso
          have hga : fo_R live par sib0 g a := (hall a ha).resolve_left (fun z => hQa (z ▸ hg))
          have n1 : fo_ro par lv g ≠ fo_ro par lv a := fun z => hQa (z ▸ hg)
          have n2 : fo_ro par lv a ≠ fo_ro par lv b := fun z => hQa (z ▸ hQb)
          have s1 := (fo_ro_ne hw hb0 lg la n1).mp hga
          have s2 := (fo_ro_ne hw hb0 la lb n2).mp hab
          have s3 := (h2.2 _ _ _ hg hQb hQa).1 s1
          obtain ⟨ra, pa, -⟩ := fo_ro_lv hw la
          obtain ⟨rb, pb, -⟩ := fo_ro_lv hw lb
          exact hb0.1 _ ra (hb0.2.2 _ _ _ ra rb ra (pa.trans pb.symm) (pb.trans pa.symm) s2 s3)
    rw [List.append_assoc, ← hd, List.take_append_drop]
  · obtain ⟨j, hj⟩ := List.getElem?_of_mem he
    have hjr : j < p := by
      have := (List.getElem?_eq_some_iff.mp hj).1
      rw [List.length_take] at this; omega
    rw [List.getElem?_take_of_lt hjr] at hj
    exact h1 j e hj hjr
end FS
/-! lists of ints in their lexicographic order; sorted lists are alike when they hold the same -/
def od_lx : List Int → List Int → Prop
  | [], [] => False
  | [], _ :: _ => True
  | _ :: _, [] => False
  | a :: s, b :: t => a < b ∨ (a = b ∧ od_lx s t)
theorem od_irr : ∀ s : List Int, ¬ od_lx s s
  | [] => fun h => h
  | a :: s => fun h => by
    rcases h with h | ⟨-, h⟩
    · omega
    · exact od_irr s h
theorem od_tr : ∀ s t u : List Int, od_lx s t → od_lx t u → od_lx s u
  | [], [], _, h, _ => h.elim
  | [], _ :: _, [], _, h => h.elim
  | [], _ :: _, _ :: _, _, _ => trivial
  | _ :: _, [], _, h, _ => h.elim
  | _ :: _, _ :: _, [], _, h => h.elim
  | a :: s, b :: t, c :: u, h1, h2 => by
    rcases h1 with h1 | ⟨e1, h1⟩
    · rcases h2 with h2 | ⟨e2, h2⟩
      · exact Or.inl (by omega)
      · exact Or.inl (by omega)
    · rcases h2 with h2 | ⟨e2, h2⟩
      · exact Or.inl (by omega)
      · exact Or.inr ⟨by omega, od_tr s t u h1 h2⟩
theorem od_tot : ∀ s t : List Int, od_lx s t ∨ s = t ∨ od_lx t s
  | [], [] => Or.inr (Or.inl rfl)
  | [], _ :: _ => Or.inl trivial
  | _ :: _, [] => Or.inr (Or.inr trivial)
  | a :: s, b :: t => by
    rcases Int.lt_trichotomy a b with h | h | h
    · exact Or.inl (Or.inl h)
    · subst h
      rcases od_tot s t with h | h | h
      · exact Or.inl (Or.inr ⟨rfl, h⟩)
      · subst h
        exact Or.inr (Or.inl rfl)
      · exact Or.inr (Or.inr (Or.inr ⟨rfl, h⟩))
    · exact Or.inr (Or.inr (Or.inl h))
theorem od_asy {s t : List Int} (h : od_lx s t) : ¬ od_lx t s := fun h2 => od_irr s (od_tr s t s h h2)
theorem od_app : ∀ p s t : List Int, od_lx (p ++ s) (p ++ t) ↔ od_lx s t
  | [], _, _ => Iff.rfl
  | a :: p, s, t => by
    show (a < a ∨ (a = a ∧ od_lx (p ++ s) (p ++ t))) ↔ od_lx s t
    constructor
    · rintro (h | ⟨-, h⟩)
      · omega
      · exact (od_app p s t).mp h
    · exact fun h => Or.inr ⟨rfl, (od_app p s t).mpr h⟩
theorem od_pre (p : List Int) (a : Int) (s : List Int) : od_lx p (p ++ a :: s) := by
  have := (od_app p [] (a :: s)).mpr trivial
  rwa [List.append_nil] at this
/-- what lies between p and p ++ [k] begins with p -/
theorem od_btw : ∀ (p : List Int) (s : List Int), od_lx p s → ∀ k, od_lx s (p ++ [k]) → ∃ a u, s = p ++ a :: u ∧ (a < k ∨ (a = k ∧ od_lx u []))
  | [], [], h, _, _ => h.elim
  | [], a :: u, _, k, h => ⟨a, u, rfl, h⟩
  | b :: p, [], h, _, _ => h.elim
  | b :: p, a :: s, h1, k, h2 => by
    rcases h1 with h1 | ⟨e1, h1⟩
    · rcases h2 with h2 | ⟨e2, h2⟩
      · omega
      · omega
    · rcases h2 with h2 | ⟨e2, h2⟩
      · omega
      · obtain ⟨a', u, e, h⟩ := od_btw p s h1 k h2
        exact ⟨a', u, by rw [e1, e]; rfl, h⟩
/-- what doesn't begin with p stands to all that does as it stands to p -/
theorem od_out : ∀ (p s : List Int), (¬ ∃ u, s = p ++ u) → (¬ ∃ v, p = s ++ v) → ∀ w, (od_lx s (p ++ w) ↔ od_lx s p) ∧ (od_lx (p ++ w) s ↔ od_lx p s)
  | [], s, h, _, _ => (h ⟨s, rfl⟩).elim
  | b :: p, [], _, h, _ => (h ⟨b :: p, rfl⟩).elim
  | b :: p, a :: s, h1, h2, w => by
    by_cases hab : a = b
    · subst hab
      have ih := od_out p s (fun ⟨u, e⟩ => h1 ⟨u, by rw [e]; rfl⟩) (fun ⟨v, e⟩ => h2 ⟨v, by rw [e]; rfl⟩) w
      constructor
      · show (a < a ∨ (a = a ∧ od_lx s (p ++ w))) ↔ (a < a ∨ (a = a ∧ od_lx s p))
        rw [ih.1]
      · show (a < a ∨ (a = a ∧ od_lx (p ++ w) s)) ↔ (a < a ∨ (a = a ∧ od_lx p s))
        rw [ih.2]
    · constructor
      · show (a < b ∨ (a = b ∧ od_lx s (p ++ w))) ↔ (a < b ∨ (a = b ∧ od_lx s p))
        constructor
        · rintro (h | ⟨e, -⟩)
          · exact Or.inl h
          · exact absurd e hab
        · rintro (h | ⟨e, -⟩)
          · exact Or.inl h
          · exact absurd e hab
      · show (b < a ∨ (b = a ∧ od_lx (p ++ w) s)) ↔ (b < a ∨ (b = a ∧ od_lx p s))
        constructor
        · rintro (h | ⟨e, -⟩)
          · exact Or.inl h
          · exact absurd e.symm hab
        · rintro (h | ⟨e, -⟩)
          · exact Or.inl h
          · exact absurd e.symm hab
theorem od_uniq {α : Type} {R : α → α → Prop} (irr : ∀ a, ¬ R a a) (tr : ∀ a b c, R a b → R b c → R a c) : ∀ l1 l2 : List α, l1.Pairwise R → l2.Pairwise R → (∀ x, x ∈ l1 ↔ x ∈ l2) → l1 = l2
  | [], [], _, _, _ => rfl
  | [], b :: l2, _, _, h => by have := (h b).mpr List.mem_cons_self; cases this
  | a :: l1, [], _, _, h => by have := (h a).mp List.mem_cons_self; cases this
  | a :: l1, b :: l2, h1, h2, h => by
    obtain ⟨p1, q1⟩ := List.pairwise_cons.mp h1
    obtain ⟨p2, q2⟩ := List.pairwise_cons.mp h2
    have hab : a = b := by
      rcases List.mem_cons.mp ((h a).mp List.mem_cons_self) with e | e
      · exact e
      · rcases List.mem_cons.mp ((h b).mpr List.mem_cons_self) with e' | e'
        · exact e'.symm
        · exact absurd (tr a b a (p1 b e') (p2 a e)) (irr a)
    subst hab
    rw [od_uniq irr tr l1 l2 q1 q2 (fun x => ?_)]
    constructor
    · intro hx
      rcases List.mem_cons.mp ((h x).mp (List.mem_cons_of_mem _ hx)) with e | e
      · subst e
        exact absurd (p1 x hx) (irr x)
      · exact e
    · intro hx
      rcases List.mem_cons.mp ((h x).mpr (List.mem_cons_of_mem _ hx)) with e | e
      · subst e
        exact absurd (p2 x hx) (irr x)
      · exact e

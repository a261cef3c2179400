/-! forests: trees stand together; where a new leaf goes -/
noncomputable def pf (P : Nat → Prop) (L : List Nat) : List Nat := L.filter (fun e => @decide (P e) (Classical.propDecidable _))
theorem pf_mem {P : Nat → Prop} {L : List Nat} {e : Nat} : e ∈ pf P L ↔ e ∈ L ∧ P e := by
  simp [pf, List.mem_filter]
theorem pf_t {P : Nat → Prop} {a : Nat} {L : List Nat} (h : P a) : pf P (a :: L) = a :: pf P L := List.filter_cons_of_pos (@decide_eq_true (P a) (Classical.propDecidable _) h)
theorem pf_f {P : Nat → Prop} {a : Nat} {L : List Nat} (h : ¬ P a) : pf P (a :: L) = pf P L := List.filter_cons_of_neg (fun z => h (@of_decide_eq_true (P a) (Classical.propDecidable _) z))
theorem pf_pw {P : Nat → Prop} {R : Nat → Nat → Prop} {L : List Nat} (h : L.Pairwise R) : (pf P L).Pairwise R := List.Pairwise.sublist List.filter_sublist h
theorem pf_all {P : Nat → Prop} : ∀ {L : List Nat}, (∀ e ∈ L, P e) → pf P L = L
  | [], _ => rfl
  | a :: L, h => by rw [pf_t (h a List.mem_cons_self), pf_all (fun e he => h e (List.mem_cons_of_mem _ he))]
theorem pf_no {P : Nat → Prop} : ∀ {L : List Nat}, (∀ e ∈ L, ¬ P e) → pf P L = []
  | [], _ => rfl
  | a :: L, h => by rw [pf_f (h a List.mem_cons_self), pf_no (fun e he => h e (List.mem_cons_of_mem _ he))]
theorem pf_app (P : Nat → Prop) (A B : List Nat) : pf P (A ++ B) = pf P A ++ pf P B := List.filter_append A B
/-- what holds of a front part parts the list -/
theorem pf_sp {P : Nat → Prop} : ∀ {L : List Nat}, L.Pairwise (fun a b => P b → P a) → L = pf P L ++ pf (fun e => ¬ P e) L
  | [], _ => rfl
  | a :: L, h => by
    obtain ⟨h1, h2⟩ := List.pairwise_cons.mp h
    by_cases ha : P a
    · rw [pf_t ha, pf_f (P := fun e => ¬ P e) (fun z => z ha), List.cons_append, ← pf_sp h2]
    · have e1 : pf P (a :: L) = [] := pf_no (fun e he => by
        rcases List.mem_cons.mp he with rfl | he
        · exact ha
        · exact fun z => ha (h1 e he z))
      have e2 : pf (fun e => ¬ P e) (a :: L) = a :: L := pf_all (fun e he => by
        rcases List.mem_cons.mp he with rfl | he
        · exact ha
        · exact fun z => ha (h1 e he z))
      rw [e1, e2]; rfl
/-- a list without doubles is as long as its property counts -/
theorem mCnt_len {G : Nat → Prop} : ∀ (n : Nat) (T : List Nat), T.Nodup → (∀ s, s ∈ T ↔ s < n ∧ G s) → T.length = mCnt G n
  | 0, T, _, h => by
    cases T with
    | nil => rfl
    | cons a T => exact absurd ((h a).mp List.mem_cons_self).1 (by omega)
  | n + 1, T, hn, h => by
    by_cases hg : G n
    · have hm : n ∈ T := (h n).mpr ⟨by omega, hg⟩
      have ih := mCnt_len n (T.erase n) (hn.erase n) (fun s => by
        rw [hn.mem_erase_iff, h s]
        constructor
        · rintro ⟨h1, h2, h3⟩; exact ⟨by omega, h3⟩
        · rintro ⟨h1, h2⟩; exact ⟨by omega, by omega, h2⟩)
      rw [mCnt_s G n hg, ← ih, List.length_erase_of_mem hm]
      have := List.length_pos_of_mem hm
      omega
    · rw [mCnt_n G n hg]
      exact mCnt_len n T hn (fun s => by
        rw [h s]
        constructor
        · rintro ⟨h1, h2⟩
          refine ⟨?_, h2⟩
          rcases Nat.lt_succ_iff_lt_or_eq.mp h1 with h1 | rfl
          · exact h1
          · exact absurd h2 hg
        · rintro ⟨h1, h2⟩; exact ⟨by omega, h2⟩)
theorem pw_nodup {R : Nat → Nat → Prop} (irr : ∀ a, ¬ R a a) {L : List Nat} (h : L.Pairwise R) : L.Nodup := List.Pairwise.imp (R := R) (S := fun a b => a ≠ b) (fun {a b} hab e => irr a (by rw [← e] at hab; exact hab)) h
theorem pw_at {R : Nat → Nat → Prop} {L : List Nat} (h : L.Pairwise R) {i j a b : Nat} (ha : L[i]? = some a) (hb : L[j]? = some b) (hij : i < j) : R a b := by
  obtain ⟨h1, rfl⟩ := List.getElem?_eq_some_iff.mp ha
  obtain ⟨h2, rfl⟩ := List.getElem?_eq_some_iff.mp hb
  exact List.pairwise_iff_getElem.mp h i j h1 h2 hij
def fo_in (par : Nat → Option Nat) (top s : Nat) : Prop := ∃ u, fo_c par s = fo_c par top ++ u
section FT
variable {live : Nat → Prop} {par : Nat → Option Nat} {lv : Nat → Nat} {sib : Nat → Nat → Prop}
theorem fo_in_rf (par : Nat → Option Nat) (s : Nat) : fo_in par s s := ⟨[], by simp⟩
theorem fo_R_irr (a : Nat) : ¬ fo_R live par sib a a := od_irr _
theorem fo_R_tr {a b d : Nat} (h1 : fo_R live par sib a b) (h2 : fo_R live par sib b d) : fo_R live par sib a d := od_tr _ _ _ h1 h2
theorem fo_R_asy {a b : Nat} (h1 : fo_R live par sib a b) : ¬ fo_R live par sib b a := od_asy h1
theorem fo_in_lv (hw : fo_wf live par lv) {t s : Nat} (ht : live t) (hs : live s) (h : fo_in par t s) : lv t ≤ lv s := by
  obtain ⟨u, hu⟩ := h
  rw [← fo_len hw t ht, ← fo_len hw s hs, hu, List.length_append]; omega
theorem fo_in_at (hw : fo_wf live par lv) {t s : Nat} (ht : live t) (hs : live s) : fo_in par t s ↔ lv t ≤ lv s ∧ fo_at par lv (lv t) 3 s = t := by
  have h1 := (hw t ht).2.1
  have h4 := (hw s hs).2.2.1
  constructor
  · intro h
    have hl := fo_in_lv hw ht hs h
    refine ⟨hl, ?_⟩
    obtain ⟨u, hu⟩ := h
    have e := fo_at_c hw (lv t) h1 3 s hs (by omega) hl
    rw [hu, List.getElem?_append_left (by rw [fo_len hw t ht]; omega), fo_last hw ht] at e
    exact (Option.some.inj e).symm
  · rintro ⟨hl, e⟩
    have e2 := fo_at_c hw (lv t) h1 3 s hs (by omega) hl
    rw [e] at e2
    obtain ⟨-, -, e3⟩ := fo_mem hw s hs _ _ e2
    exact ⟨(fo_c par s).drop (lv t - 1 + 1), by rw [e3, List.take_append_drop]⟩
theorem fo_in_k (hw : fo_wf live par lv) (hb : fo_sb live par sib) {t s : Nat} (ht : live t) (hs : live s) : fo_in par t s ↔ ∃ u, fo_k live par sib s = fo_k live par sib t ++ u := by
  constructor
  · rintro ⟨u, hu⟩
    exact ⟨u.map (fo_rk live par sib), by rw [fo_k, hu, List.map_append]; rfl⟩
  · rintro ⟨u, hu⟩
    have h1 := (hw t ht).2.1
    have hl : lv t ≤ lv s := by rw [← fo_k_len (sib := sib) hw ht, ← fo_k_len (sib := sib) hw hs, hu, List.length_append]; omega
    have hlen := fo_len hw s hs
    obtain ⟨a, ha⟩ : ∃ a, (fo_c par s)[lv t - 1]? = some a := ⟨_, List.getElem?_eq_getElem (by omega)⟩
    obtain ⟨la, va, ca⟩ := fo_mem hw s hs _ _ ha
    have ka : fo_k live par sib a = fo_k live par sib t := by
      rw [fo_k, ca, List.map_take]
      show (fo_k live par sib s).take _ = _
      rw [hu, List.take_append_of_le_length (by rw [fo_k_len hw ht]; omega), List.take_of_length_le (by rw [fo_k_len hw ht]; omega)]
    have e := fo_k_inj hw hb a la t ht ka
    subst e
    exact ⟨(fo_c par s).drop (lv a - 1 + 1), by rw [ca, List.take_append_drop]⟩
/-- an ancestor stands in front -/
theorem fo_anc (hw : fo_wf live par lv) (hb : fo_sb live par sib) {a s : Nat} (ha : live a) (hs : live s) (h : fo_in par a s) (hne : a ≠ s) : fo_R live par sib a s := by
  obtain ⟨u, hu⟩ := (fo_in_k hw hb ha hs).mp h
  cases u with
  | nil => rw [List.append_nil] at hu; exact absurd (fo_k_inj hw hb a ha s hs hu.symm) hne
  | cons x u =>
    show od_lx _ _
    rw [hu]; exact od_pre _ _ _
/-- what is no tree's member and no ancestor of it stands to all of the tree as it stands to its top -/
theorem fo_out (hw : fo_wf live par lv) (hb : fo_sb live par sib) {e t s : Nat} (he : live e) (ht : live t) (hs : live s) (h1 : ¬ fo_in par t e) (h2 : ¬ fo_in par e t) (h : fo_in par t s) : (fo_R live par sib e s ↔ fo_R live par sib e t) ∧ (fo_R live par sib s e ↔ fo_R live par sib t e) := by
  obtain ⟨u, hu⟩ := (fo_in_k hw hb ht hs).mp h
  have := od_out (fo_k live par sib t) (fo_k live par sib e) (fun z => h1 ((fo_in_k hw hb ht he).mpr z)) (fun z => h2 ((fo_in_k hw hb he ht).mpr z)) u
  unfold fo_R
  rw [hu]; exact this
/-- behind the top and in front of a member: a member -/
theorem fo_btw (hw : fo_wf live par lv) (hb : fo_sb live par sib) {e t s : Nat} (he : live e) (ht : live t) (hs : live s) (h : fo_in par t s) (h1 : fo_R live par sib t e) (h2 : fo_R live par sib e s) : fo_in par t e := by
  by_cases h3 : fo_in par t e
  · exact h3
  · have h4 : ¬ fo_in par e t := fun z => by
      have hne : e ≠ t := fun q => h3 (by rw [q]; exact fo_in_rf par t)
      exact fo_R_asy h1 (fo_anc hw hb he ht z hne)
    exact absurd (((fo_out hw hb he ht hs h3 h4 h).1).mp h2) (fo_R_asy h1)
theorem fo_tree (hw : fo_wf live par lv) (hb : fo_sb live par sib) {t : Nat} (ht : live t) {L : List Nat} (hL : ∀ e ∈ L, live e) (hp : L.Pairwise (fo_R live par sib)) (hm : t ∈ L) :
    ∃ A T C, L = A ++ t :: T ++ C ∧ (∀ e ∈ A, ¬ fo_in par t e ∧ fo_R live par sib e t) ∧ (∀ e ∈ T, fo_in par t e) ∧ ∀ e ∈ C, ¬ fo_in par t e ∧ fo_R live par sib t e := by
  obtain ⟨A, B, rfl⟩ := List.append_of_mem hm
  obtain ⟨p1, p2, p3⟩ := List.pairwise_append.mp hp
  obtain ⟨p4, p5⟩ := List.pairwise_cons.mp p2
  have hB : B = pf (fo_in par t) B ++ pf (fun e => ¬ fo_in par t e) B := by
    apply pf_sp
    refine List.Pairwise.imp_of_mem (fun {a b} ha hb' hab hin => ?_) p5
    exact fo_btw hw hb (hL a (by simp [ha])) ht (hL b (by simp [hb'])) hin (p4 a ha) hab
  refine ⟨A, pf (fo_in par t) B, pf (fun e => ¬ fo_in par t e) B, ?_, fun e he => ?_, fun e he => (pf_mem.mp he).2, fun e he => ⟨(pf_mem.mp he).2, p4 e (pf_mem.mp he).1⟩⟩
  · rw [List.append_assoc, List.cons_append, ← hB]
  · have h1 := p3 e he t List.mem_cons_self
    refine ⟨fun z => ?_, h1⟩
    by_cases q : t = e
    · rw [q] at h1; exact fo_R_irr _ h1
    · exact fo_R_asy h1 (fo_anc hw hb ht (hL e (by simp [he])) z q)
/-- under a parent, or anywhere where there is none -/
def fo_un (par : Nat → Option Nat) (pr : Option Nat) (e : Nat) : Prop := ∀ t, pr = some t → fo_in par t e ∧ e ≠ t
noncomputable def fo_kp (live : Nat → Prop) (par : Nat → Option Nat) (sib : Nat → Nat → Prop) (pr : Option Nat) : List Int := match pr with
  | none => []
  | some t => fo_k live par sib t
theorem fo_k_kp (hw : fo_wf live par lv) {s : Nat} (hs : live s) : fo_k live par sib s = fo_kp live par sib (par s) ++ [fo_rk live par sib s] := by
  cases h : par s with
  | none => exact fo_k_none h
  | some p => exact fo_k_some hw hs h
theorem fo_chd (hw : fo_wf live par lv) {pr : Option Nat} {e : Nat} (he : live e) (hpr : ∀ t, pr = some t → live t) (hu : fo_un par pr e) : ∃ d u, live d ∧ par d = pr ∧ fo_in par d e ∧ fo_k live par sib e = fo_kp live par sib pr ++ fo_rk live par sib d :: u := by
  have mk : ∀ i d, (fo_c par e)[i]? = some d → ∃ u, fo_c par e = (fo_c par e).take i ++ d :: u := fun i d hd => ⟨(fo_c par e).drop (i + 1), by rw [← fo_drop hd, List.take_append_drop]⟩
  have hlen := fo_len hw e he
  have h1e := (hw e he).2.1
  cases pr with
  | none =>
    obtain ⟨d, hd⟩ : ∃ d, (fo_c par e)[0]? = some d := ⟨_, List.getElem?_eq_getElem (by omega)⟩
    obtain ⟨ld, vd, cd⟩ := fo_mem hw e he _ _ hd
    obtain ⟨u, eu⟩ := mk 0 d hd
    obtain ⟨-, -, -, ⟨g1, g2⟩ | ⟨q, g1, g2, g3⟩⟩ := hw d ld
    · refine ⟨d, u.map (fo_rk live par sib), ld, g1, ⟨u, ?_⟩, ?_⟩
      · rw [fo_c_none g1, eu]; rfl
      · rw [fo_k, eu]; rfl
    · have := (hw q g2).2.1; omega
  | some t =>
    obtain ⟨⟨v, hv⟩, hne⟩ := hu t rfl
    have lt := hpr t rfl
    have hlt := fo_len hw t lt
    obtain ⟨d, w, rfl⟩ : ∃ d w, v = d :: w := by
      cases v with
      | nil =>
        rw [List.append_nil] at hv
        have e1 := fo_last hw he
        rw [hv, ← hlen, hv, hlt] at e1
        rw [fo_last hw lt] at e1
        exact absurd (Option.some.inj e1).symm hne
      | cons d w => exact ⟨d, w, rfl⟩
    have hd : (fo_c par e)[lv t]? = some d := by
      rw [hv, List.getElem?_append_right (by omega), hlt, Nat.sub_self]; rfl
    obtain ⟨ld, vd, cd⟩ := fo_mem hw e he _ _ hd
    have h1t := (hw t lt).2.1
    obtain ⟨-, -, -, ⟨g1, g2⟩ | ⟨q, g1, g2, g3⟩⟩ := hw d ld
    · omega
    · have cq := fo_c_some hw ld g1
      have lq := fo_len hw q g2
      have ct : (fo_c par e).take (lv t + 1) = fo_c par t ++ [d] := by
        rw [hv, ← hlt]
        have : fo_c par t ++ d :: w = (fo_c par t ++ [d]) ++ w := by simp
        rw [this, List.take_append_of_le_length (by simp), List.take_of_length_le (by simp)]
      have eqt : q = t := by
        rw [cd, ct] at cq
        have := (List.append_inj cq (by omega)).1
        have e1 := fo_last hw g2
        rw [← this, show lv q - 1 = lv t - 1 by omega, fo_last hw lt] at e1
        exact (Option.some.inj e1).symm
      subst eqt
      refine ⟨d, w.map (fo_rk live par sib), ld, g1, ⟨w, ?_⟩, ?_⟩
      · rw [hv, cq]; simp
      · show _ = fo_k live par sib q ++ _
        rw [fo_k, hv, List.map_append]; rfl
/-- a node under f's parent and not under f stands to f as its ancestor beside f does -/
theorem fo_cmp (hw : fo_wf live par lv) (hb : fo_sb live par sib) {f e : Nat} (hf : live f) (he : live e) (hu : fo_un par (par f) e) (hn : ¬ fo_in par f e) : ∃ d, live d ∧ par d = par f ∧ fo_in par d e ∧ d ≠ f ∧ (fo_R live par sib f e ↔ sib f d) ∧ (fo_R live par sib e f ↔ sib d f) := by
  have hpr : ∀ t, par f = some t → live t := fun t ht => by
    obtain ⟨-, -, -, ⟨g1, g2⟩ | ⟨q, g1, g2, g3⟩⟩ := hw f hf
    · rw [g1] at ht; cases ht
    · rw [g1] at ht; cases ht; exact g2
  obtain ⟨d, u, h1, h2, h3, h4⟩ := fo_chd (sib := sib) hw he hpr hu
  have hne : d ≠ f := fun z => hn (z ▸ h3)
  refine ⟨d, h1, h2, h3, hne, ?_, ?_⟩
  · unfold fo_R
    rw [h4, fo_k_kp hw hf, od_app, fo_rk_iff hw hb hf h1 h2.symm]
    constructor
    · rintro (z | ⟨z, -⟩)
      · exact z
      · exact absurd (fo_rk_inj hw hb hf h1 h2.symm z).symm hne
    · exact Or.inl
  · unfold fo_R
    rw [h4, fo_k_kp hw hf, od_app, fo_rk_iff hw hb h1 hf h2]
    constructor
    · rintro (z | ⟨z, -⟩)
      · exact z
      · exact absurd (fo_rk_inj hw hb h1 hf h2 z) hne
    · exact Or.inl
theorem pw_ins {R : Nat → Nat → Prop} {L : List Nat} (h : L.Pairwise R) {f r : Nat} (h1 : ∀ (j e : Nat), L[j]? = some e → j < r → R e f) (h2 : ∀ (j e : Nat), L[j]? = some e → r ≤ j → R f e) : (L.take r ++ f :: L.drop r).Pairwise R := by
  have h3 : (L.take r ++ L.drop r).Pairwise R := by rw [List.take_append_drop]; exact h
  obtain ⟨p1, p2, p3⟩ := List.pairwise_append.mp h3
  refine List.pairwise_append.mpr ⟨p1, List.pairwise_cons.mpr ⟨fun e he => ?_, p2⟩, fun a ha b hb => ?_⟩
  · obtain ⟨j, hj⟩ := List.getElem?_of_mem he
    rw [List.getElem?_drop] at hj
    exact h2 _ e hj (by omega)
  · rcases List.mem_cons.mp hb with rfl | hb
    · obtain ⟨j, hj⟩ := List.getElem?_of_mem ha
      have hjr : j < r := by
        have := (List.getElem?_eq_some_iff.mp hj).1
        rw [List.length_take] at this; omega
      rw [List.getElem?_take_of_lt hjr] at hj
      exact h1 j a hj hjr
    · exact p3 a ha b hb
/-- where a new leaf goes -/
theorem fo_enter (hw : fo_wf live par lv) (hb : fo_sb live par sib) {f : Nat} (hf : live f) (hleaf : ∀ e, live e → e ≠ f → ¬ fo_in par f e) {L : List Nat} (hL : ∀ e, e ∈ L ↔ live e ∧ e ≠ f) (hp : L.Pairwise (fo_R live par sib)) {r : Nat}
    (hr : (∃ d, L[r]? = some d ∧ (par d = par f ∧ sib f d) ∧ ∀ (j e : Nat), L[j]? = some e → j < r → ¬ (par e = par f ∧ sib f e)) ∨ ((∀ (j e : Nat), L[j]? = some e → ¬ (par e = par f ∧ sib f e)) ∧ r ≤ L.length ∧ (r = 0 ∨ ∃ g, L[r - 1]? = some g ∧ ∀ t, par f = some t → fo_in par t g) ∧ ∀ (j e : Nat), L[j]? = some e → r ≤ j → ¬ ∀ t, par f = some t → fo_in par t e)) : (L.take r ++ f :: L.drop r).Pairwise (fo_R live par sib) := by
  have hpr : ∀ t, par f = some t → live t ∧ t ≠ f ∧ fo_in par t f ∧ fo_R live par sib t f := fun t ht => by
    obtain ⟨-, -, -, ⟨g1, g2⟩ | ⟨q, g1, g2, g3⟩⟩ := hw f hf
    · rw [g1] at ht; cases ht
    · rw [g1] at ht; cases ht
      have hne : t ≠ f := fun z => by rw [z] at g3; omega
      have hi : fo_in par t f := ⟨[f], fo_c_some hw hf g1⟩
      exact ⟨g2, hne, hi, fo_anc hw hb g2 hf hi hne⟩
  have hlv : ∀ (j e : Nat), L[j]? = some e → live e ∧ e ≠ f := fun j e hj => (hL e).mp (List.mem_of_getElem? hj)
  have idx : ∀ d, live d → d ≠ f → ∃ j, L[j]? = some d := fun d h1 h2 => List.getElem?_of_mem ((hL d).mpr ⟨h1, h2⟩)
  have le_of : ∀ i j a b, L[i]? = some a → L[j]? = some b → fo_R live par sib a b → i ≤ j := fun i j a b ha hb' hab => by
    rcases Nat.lt_or_ge j i with hlt | hge
    · exact absurd (pw_at hp hb' ha hlt) (fo_R_asy hab)
    · exact hge
  have flip : ∀ e, live e → e ≠ f → ¬ fo_R live par sib e f → fo_R live par sib f e := fun e h1 h2 h3 => (fo_R_tot hw hb h1 hf h2).resolve_left h3
  rcases hr with ⟨d0, hd0, ⟨hp0, hs0⟩, hfst⟩ | ⟨hno, hrl, hend, hbeh⟩
  · obtain ⟨ld0, nd0⟩ := hlv r d0 hd0
    have hun0 : fo_un par (par f) d0 := fun t ht => by
      obtain ⟨q1, -⟩ := hpr t ht
      have : par d0 = some t := hp0.trans ht
      refine ⟨⟨[d0], fo_c_some hw ld0 this⟩, fun z => ?_⟩
      obtain ⟨-, -, -, ⟨g1, g2⟩ | ⟨q, g1, g2, g3⟩⟩ := hw d0 ld0
      · rw [this] at g1; cases g1
      · rw [this] at g1; cases g1; rw [z] at g3; omega
    have hR0 : fo_R live par sib f d0 := by
      unfold fo_R
      rw [fo_k_kp hw hf, fo_k_kp hw ld0, hp0, od_app]
      exact Or.inl (fo_rk_lt hw hb hf ld0 hp0.symm hs0)
    refine pw_ins hp (fun j e hj hjr => ?_) (fun j e hj hjr => ?_)
    · by_cases hc : fo_R live par sib e f
      · exact hc
      · exfalso
        obtain ⟨le, ne⟩ := hlv j e hj
        have hfe := flip e le ne hc
        have hed := pw_at hp hj hd0 hjr
        have hun : fo_un par (par f) e := fun t ht => by
          obtain ⟨q1, q2, q3, q4⟩ := hpr t ht
          have hte := fo_R_tr q4 hfe
          exact ⟨fo_btw hw hb le q1 ld0 (hun0 t ht).1 hte hed, fun z => fo_R_irr _ (z ▸ hte)⟩
        obtain ⟨d, d1, d2, d3, d4, d5, -⟩ := fo_cmp hw hb hf le hun (hleaf e le ne)
        obtain ⟨jd, hjd⟩ := idx d d1 d4
        have hle : jd ≤ j := by
          by_cases q : d = e
          · rw [q] at hjd
            rcases Nat.lt_or_ge j jd with z | z
            · exact absurd (pw_at hp hj hjd z) (fo_R_irr e)
            · exact z
          · exact le_of jd j d e hjd hj (fo_anc hw hb d1 le d3 q)
        exact hfst jd d hjd (by omega) ⟨d2, d5.mp hfe⟩
    · rcases Nat.lt_or_ge r j with z | z
      · exact fo_R_tr hR0 (pw_at hp hd0 hj z)
      · have : j = r := by omega
        rw [this, hd0] at hj
        rw [← Option.some.inj hj]; exact hR0
  · refine pw_ins hp (fun j e hj hjr => ?_) (fun j e hj hjr => ?_)
    · by_cases hc : fo_R live par sib e f
      · exact hc
      · exfalso
        obtain ⟨le, ne⟩ := hlv j e hj
        have hfe := flip e le ne hc
        obtain ⟨g, hg, hgt⟩ := hend.resolve_left (by omega)
        obtain ⟨lg, -⟩ := hlv _ g hg
        have hun : fo_un par (par f) e := fun t ht => by
          obtain ⟨q1, q2, q3, q4⟩ := hpr t ht
          have hte := fo_R_tr q4 hfe
          refine ⟨?_, fun z => fo_R_irr _ (z ▸ hte)⟩
          rcases Nat.lt_or_ge j (r - 1) with z | z
          · exact fo_btw hw hb le q1 lg (hgt t ht) hte (pw_at hp hj hg z)
          · have : j = r - 1 := by omega
            rw [this, hg] at hj
            rw [← Option.some.inj hj]; exact hgt t ht
        obtain ⟨d, d1, d2, d3, d4, d5, -⟩ := fo_cmp hw hb hf le hun (hleaf e le ne)
        obtain ⟨jd, hjd⟩ := idx d d1 d4
        exact hno jd d hjd ⟨d2, d5.mp hfe⟩
    · obtain ⟨le, ne⟩ := hlv j e hj
      have hnt := hbeh j e hj hjr
      obtain ⟨t, ht, hne⟩ : ∃ t, par f = some t ∧ ¬ fo_in par t e := by
        cases h : par f with
        | none => exact absurd (fun t z => by rw [h] at z; cases z) hnt
        | some t => exact ⟨t, rfl, fun z => hnt (fun t' z' => by rw [h] at z'; cases z'; exact z)⟩
      obtain ⟨q1, q2, q3, q4⟩ := hpr t ht
      obtain ⟨jt, hjt⟩ := idx t q1 q2
      have hjt2 : jt < r := by
        rcases Nat.lt_or_ge jt r with z | z
        · exact z
        · exact absurd (fun t' z' => by rw [ht] at z'; cases z'; exact fo_in_rf par t) (hbeh jt t hjt z)
      have hte := pw_at hp hjt hj (by omega)
      have hna : ¬ fo_in par e t := fun z => by
        have : e ≠ t := fun q => hne (q ▸ fo_in_rf par t)
        exact fo_R_asy hte (fo_anc hw hb le q1 z this)
      exact ((fo_out hw hb le q1 hf hne hna q3).2).mpr hte
end FT
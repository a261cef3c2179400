/-! roots in another order: the copying of trees, one by one -/
def ar_cp (B N : Nat → Nat) (f t m : Nat) : Nat → Nat := fun j => if t ≤ j ∧ j < t + m then B (f + (j - t)) else N j
def ar_ct (ln : Nat) (I : Nat → Nat → Prop) (B : Nat → Nat) (f t m : Nat) : Prop := f + m ≤ ln ∧ t + m ≤ ln ∧ (∀ j, j < m → I (B f) (B (f + j))) ∧ (f + m < ln → t + m < ln → ¬ I (B f) (B (f + m)))
noncomputable def ar_lr (ln : Nat) (P : Nat → Prop) (cb : Nat → Nat → Prop) (B : Nat → Nat) : Nat → Nat
  | 0 => ln
  | n + 1 => @ite Nat (P n ∧ (ar_lr ln P cb B n = ln ∨ cb (B n) (B (ar_lr ln P cb B n)))) (Classical.propDecidable _) n (ar_lr ln P cb B n)
def ar_P (Q : Nat → Prop) (cb : Nat → Nat → Prop) (B : Nat → Nat) (pv : Option Nat) (i : Nat) : Prop := Q (B i) ∧ ∀ q, pv = some q → cb q (B i)
def ar_AR (ln : Nat) (I : Nat → Nat → Prop) (Q : Nat → Prop) (cb : Nat → Nat → Prop) (B : Nat → Nat) : Nat → Nat → Nat → (Nat → Nat) → (Nat → Nat) → Prop
  | 0, _, _, N, N' => N' = N
  | n + 1, to, root, N, N' => (¬ root < ln ∧ N' = N) ∨ (root < ln ∧ ∃ m, ar_ct ln I B root to m ∧ ar_AR ln I Q cb B n (to + m) (ar_lr ln (ar_P Q cb B (some (B root))) cb B ln) (ar_cp B N root to m) N')
/-- the least of those that P names -/
theorem ar_lr_ok {ln : Nat} {P : Nat → Prop} {cb : Nat → Nat → Prop} {B : Nat → Nat} (hB : ∀ i j, i < ln → j < ln → P i → P j → i ≠ j → cb (B i) (B j) ∨ cb (B j) (B i)) (htr : ∀ i j k, i < ln → j < ln → k < ln → P i → P j → P k → cb (B i) (B j) → cb (B j) (B k) → cb (B i) (B k)) : ∀ n, n ≤ ln → (ar_lr ln P cb B n = ln ∧ ∀ i, i < n → ¬ P i) ∨ (ar_lr ln P cb B n < n ∧ P (ar_lr ln P cb B n) ∧ ∀ i, i < n → P i → i ≠ ar_lr ln P cb B n → cb (B (ar_lr ln P cb B n)) (B i))
  | 0, _ => Or.inl ⟨rfl, fun i hi => by omega⟩
  | n + 1, hn => by
    have ih := ar_lr_ok hB htr n (by omega)
    by_cases hc : P n ∧ (ar_lr ln P cb B n = ln ∨ cb (B n) (B (ar_lr ln P cb B n)))
    · rw [ar_lr, if_pos hc]
      refine Or.inr ⟨by omega, hc.1, fun i hi hP hne => ?_⟩
      have hi2 : i < n := by omega
      rcases ih with ⟨h1, h2⟩ | ⟨h1, h2, h3⟩
      · exact absurd hP (h2 i hi2)
      · have hcb := hc.2.resolve_left (by omega)
        by_cases e : i = ar_lr ln P cb B n
        · rw [e]; exact hcb
        · exact htr n _ i (by omega) (by omega) (by omega) hc.1 h2 hP hcb (h3 i hi2 hP e)
    · rw [ar_lr, if_neg hc]
      rcases ih with ⟨h1, h2⟩ | ⟨h1, h2, h3⟩
      · refine Or.inl ⟨h1, fun i hi hP => ?_⟩
        rcases Nat.lt_succ_iff_lt_or_eq.mp hi with hi | rfl
        · exact h2 i hi hP
        · exact hc ⟨hP, Or.inl h1⟩
      · refine Or.inr ⟨by omega, h2, fun i hi hP hne => ?_⟩
        rcases Nat.lt_succ_iff_lt_or_eq.mp hi with hi | rfl
        · exact h3 i hi hP hne
        · exact (hB _ _ (by omega) (by omega) h2 hP (by omega)).resolve_right (fun z => hc ⟨hP, Or.inr z⟩)
section AR
variable {live : Nat → Prop} {par : Nat → Option Nat} {lv : Nat → Nat} {sib0 sib1 : Nat → Nat → Prop} {Q : Nat → Prop}
theorem nd_le {T : List Nat} (hn : T.Nodup) (h : ∀ s ∈ T, s < 60 ∧ live s) : T.length ≤ mCnt live 60 := by
  rw [mCnt_len (G := fun s => s ∈ T) 60 T hn (fun s => ⟨fun z => ⟨(h s z).1, z⟩, fun z => z.2⟩)]
  exact mCnt_mono 60 (fun i _ z => (h i z).2)
theorem nd_app {A B : List Nat} (h1 : A.Nodup) (h2 : B.Nodup) (h3 : ∀ a ∈ A, a ∉ B) : (A ++ B).Nodup := List.pairwise_append.mpr ⟨h1, h2, fun a ha b hb e => h3 a ha (e ▸ hb)⟩
theorem getD_at {L : List Nat} {i e : Nat} (h : L[i]? = some e) : L.getD i 0 = e := by rw [List.getD_eq_getElem?_getD, h]; rfl
theorem nd_idx {L : List Nat} (hn : L.Nodup) {i j e : Nat} (h1 : L[i]? = some e) (h2 : L[j]? = some e) : i = j := by
  rcases Nat.lt_trichotomy i j with h | h | h
  · exact absurd rfl (pw_at hn h1 h2 h)
  · exact h
  · exact absurd rfl (pw_at hn h2 h1 h)
theorem ar_ok (h2 : fo_two par Q sib0 sib1) (hw : fo_wf live par lv) (hb0 : fo_sb live par sib0) (hb1 : fo_sb live par sib1) (hQ : ∀ e, live e → Q e → par e = none) {L : List Nat} (hL : ∀ e, e ∈ L ↔ live e) (hp : L.Pairwise (fo_R live par sib0))
    {p : Nat} (g1 : ∀ (j e : Nat), L[j]? = some e → j < p → ¬ Q (fo_ro par lv e)) (g3 : ∀ e, L[p]? = some e → Q (fo_ro par lv e)) (hpl : p ≤ L.length) {I cb : Nat → Nat → Prop} (hI : ∀ a b, live a → live b → (I a b ↔ fo_in par a b)) (hcb : ∀ a b, live a → live b → Q a → Q b → (cb a b ↔ sib1 a b)) :
    ∀ (n : Nat) (rs : List Nat) (to root : Nat) (N N' : Nat → Nat), rs.Pairwise sib1 → (∀ q ∈ rs, live q ∧ Q q) → (∀ q ∈ rs, ∀ q', live q' → Q q' → q' ∉ rs → sib1 q q') → to = p + (rs.flatMap (fun q => pf (fo_in par q) L)).length →
      (∀ j, j < to → (L.take p ++ rs.flatMap (fun q => pf (fo_in par q) L))[j]? = some (N j)) → (∀ j, to ≤ j → j < L.length → L[j]? = some (N j)) →
      ((root = L.length ∧ ∀ q, live q → Q q → q ∈ rs) ∨ ∃ q, L[root]? = some q ∧ Q q ∧ q ∉ rs ∧ ∀ q', live q' → Q q' → q' ∉ rs → q' ≠ q → sib1 q q') → rs.length + n = L.length → ar_AR L.length I Q cb (fun i => L.getD i 0) n to root N N' →
      ∃ LN : List Nat, LN.Pairwise (fo_R live par sib1) ∧ (∀ e, e ∈ LN ↔ live e) ∧ LN.length = L.length ∧ ∀ j, j < L.length → LN[j]? = some (N' j) := by
  have hnd : L.Nodup := pw_nodup (fun a => fo_R_irr a) hp
  have h60 : ∀ e, live e → e < 60 := fun e he => (hw e he).1
  have hlen : L.length = mCnt live 60 := mCnt_len 60 L hnd (fun s => by rw [hL s]; exact ⟨fun z => ⟨h60 s z, z⟩, fun z => z.2⟩)
  obtain ⟨M, C, e0, hA, hM, hC⟩ := fo_parts h2 hw hb0 (fun e he => (hL e).mp he) hp g1 g3
  have hA60 : (L.take p).length = p := by rw [List.length_take]; omega
  -- all roots with Q are done
  have fin : ∀ (rs : List Nat) (to : Nat) (N : Nat → Nat), rs.Pairwise sib1 → (∀ q ∈ rs, live q ∧ Q q) → to = p + (rs.flatMap (fun q => pf (fo_in par q) L)).length →
      (∀ j, j < to → (L.take p ++ rs.flatMap (fun q => pf (fo_in par q) L))[j]? = some (N j)) → (∀ j, to ≤ j → j < L.length → L[j]? = some (N j)) → (∀ q, live q → Q q → q ∈ rs) →
      ∃ LN : List Nat, LN.Pairwise (fo_R live par sib1) ∧ (∀ e, e ∈ LN ↔ live e) ∧ LN.length = L.length ∧ ∀ j, j < L.length → LN[j]? = some (N j) := by
    intro rs to N k1 k2 k3 k4 k5 k6
    have hL' : ∀ e, e ∈ L.take p ++ M ++ C ↔ live e := fun e => by rw [← e0]; exact hL e
    have hp' : (L.take p ++ M ++ C).Pairwise (fo_R live par sib0) := by rw [← e0]; exact hp
    have ha := fo_arr h2 hw hb0 hb1 hL' hp' hA hM hC k1 (fun r => ⟨fun z => ⟨(k2 r z).1, hQ r (k2 r z).1 (k2 r z).2, (k2 r z).2⟩, fun z => k6 r z.1 z.2.2⟩)
    rw [← e0] at ha
    obtain ⟨a1, a2⟩ := ha
    have hlN : (L.take p ++ rs.flatMap (fun q => pf (fo_in par q) L) ++ C).length = L.length := by
      rw [hlen]
      exact mCnt_len 60 _ (pw_nodup (fun a => fo_R_irr a) a1) (fun s => by rw [a2 s]; exact ⟨fun z => ⟨h60 s z, z⟩, fun z => z.2⟩)
    refine ⟨_, a1, a2, hlN, fun j hj => ?_⟩
    have hX : (L.take p ++ rs.flatMap (fun q => pf (fo_in par q) L)).length = to := by rw [List.length_append, hA60, k3]
    by_cases h9 : j < to
    · rw [List.getElem?_append_left (by omega)]; exact k4 j h9
    · rw [List.getElem?_append_right (by omega), hX]
      have hlC : to + C.length = L.length := by rw [← hlN, List.length_append, hX]
      have hlM : (L.take p ++ M).length = to := by
        have := congrArg List.length e0
        rw [List.length_append] at this; omega
      have := k5 j (by omega) hj
      rw [e0, List.getElem?_append_right (by omega), hlM] at this
      exact this
  have trm : ∀ q e, live q → Q q → (e ∈ pf (fo_in par q) L ↔ live e ∧ fo_ro par lv e = q) := fun q e lq hq => by
    rw [pf_mem, hL e]
    constructor
    · rintro ⟨z1, z2⟩; exact ⟨z1, (fo_ro_in hw lq (hQ q lq hq) z1).mp z2⟩
    · rintro ⟨z1, z2⟩; exact ⟨z1, (fo_ro_in hw lq (hQ q lq hq) z1).mpr z2⟩
  have rnd : ∀ rs : List Nat, rs.Pairwise sib1 → (∀ q ∈ rs, live q ∧ Q q) → rs.Nodup := fun rs k1 k2 => List.Pairwise.imp_of_mem (S := fun a b => a ≠ b) (fun {a b} ha hb hab e => by
    rw [← e] at hab; exact hb1.1 a (k2 a ha).1 hab) k1
  have room : ∀ rs : List Nat, rs.Nodup → (∀ q ∈ rs, live q ∧ Q q) → p + (rs.flatMap (fun q => pf (fo_in par q) L)).length ≤ L.length := fun rs k1 k2 => by
    have hfl : (rs.flatMap (fun q => pf (fo_in par q) L)).Nodup := by
      refine pw_flat (S := fun a b => a ≠ b) (R := fun a b => a ≠ b) (fun r hr => pf_pw hnd) (fun r r' a b hr hr' hne ha hb' e => hne ?_) k1
      obtain ⟨q1, q2⟩ := k2 r hr
      obtain ⟨q3, q4⟩ := k2 r' hr'
      rw [← ((trm r a q1 q2).mp ha).2, ← ((trm r' b q3 q4).mp hb').2, e]
    have hX : (L.take p ++ rs.flatMap (fun q => pf (fo_in par q) L)).Nodup := nd_app (List.Pairwise.sublist (List.take_sublist p L) hnd) hfl (fun a ha hb' => by
      obtain ⟨q, hq, hb'⟩ := List.mem_flatMap.mp hb'
      obtain ⟨q1, q2⟩ := k2 q hq
      exact hA a ha (by rw [((trm q a q1 q2).mp hb').2]; exact q2))
    have := nd_le (live := live) hX (fun s hs => by
      have : live s := by
        rcases List.mem_append.mp hs with hs | hs
        · exact (hL s).mp (List.mem_of_mem_take hs)
        · obtain ⟨q, hq, hs⟩ := List.mem_flatMap.mp hs
          exact (hL s).mp (pf_mem.mp hs).1
      exact ⟨h60 s this, this⟩)
    rw [List.length_append, hA60, ← hlen] at this
    exact this
  intro n
  induction n with
  | zero =>
    intro rs to root N N' k1 k2 k3 k4 k5 k6 k7 k8 k9
    have k9 : N' = N := k9
    rw [k9]
    refine fin rs to N k1 k2 k4 k5 k6 (fun q lq hq => ?_)
    by_cases hm : q ∈ rs
    · exact hm
    · exfalso
      have := nd_le (live := live) (T := rs ++ [q]) (nd_app (rnd rs k1 k2) (by simp) (fun a ha hb' => hm (by
        have : a = q := by simpa using hb'
        exact this ▸ ha))) (fun s hs => by
          rcases List.mem_append.mp hs with hs | hs
          · exact ⟨h60 s (k2 s hs).1, (k2 s hs).1⟩
          · have : s = q := by simpa using hs
            rw [this]; exact ⟨h60 q lq, lq⟩)
      rw [← hlen, List.length_append] at this
      simp at this
      omega
  | succ n ih =>
    intro rs to root N N' k1 k2 k3 k4 k5 k6 k7 k8 k9
    rcases k9 with ⟨hnr, rfl⟩ | ⟨hr, m, ⟨m1, m2, m3, m4⟩, hrec⟩
    · refine fin rs to N' k1 k2 k4 k5 k6 ?_
      rcases k7 with ⟨-, z⟩ | ⟨q, hq, -⟩
      · exact z
      · exact absurd (List.getElem?_eq_some_iff.mp hq).1 hnr
    · obtain ⟨q, hq, hQq, hqn, hql⟩ := k7.resolve_left (fun z => by omega)
      have lq : live q := (hL q).mp (List.mem_of_getElem? hq)
      have hBr : L.getD root 0 = q := getD_at hq
      obtain ⟨A, T, E, e1, hA1, hT1, hE1⟩ := fo_tree hw hb0 lq (fun e he => (hL e).mp he) hp (List.mem_of_getElem? hq)
      have hroot : root = A.length := nd_idx hnd hq (by rw [e1, List.append_assoc, List.getElem?_append_right (Nat.le_refl _), Nat.sub_self]; rfl)
      have htr : pf (fo_in par q) L = q :: T := by
        rw [e1, pf_app, pf_app, pf_no (fun e he => (hA1 e he).1), pf_t (fo_in_rf par q), pf_all hT1, pf_no (fun e he => (hE1 e he).1)]
        simp
      have hlL : L.length = A.length + (T.length + 1) + E.length := by
        have := congrArg List.length e1
        simp [List.length_append] at this
        omega
      have at1 : ∀ j, j < T.length + 1 → L[root + j]? = (q :: T)[j]? := fun j hj => by
        rw [e1, List.append_assoc, List.getElem?_append_right (by omega), List.getElem?_append_left (by simp; omega), hroot]
        congr 1; omega
      have live_of : ∀ (i e : Nat), L[i]? = some e → live e := fun i e h => (hL e).mp (List.mem_of_getElem? h)
      have hrs' : ∀ z ∈ rs ++ [q], live z ∧ Q z := fun z hz => by
        rcases List.mem_append.mp hz with hz | hz
        · exact k2 z hz
        · have : z = q := by simpa using hz
          rw [this]; exact ⟨lq, hQq⟩
      have hpw' : (rs ++ [q]).Pairwise sib1 := List.pairwise_append.mpr ⟨k1, by simp, fun a ha b hb' => by
        have : b = q := by simpa using hb'
        rw [this]; exact k3 a ha q lq hQq hqn⟩
      have hrm := room (rs ++ [q]) (rnd _ hpw' hrs') hrs'
      have hfl : (rs ++ [q]).flatMap (fun q => pf (fo_in par q) L) = rs.flatMap (fun q => pf (fo_in par q) L) ++ (q :: T) := by
        rw [List.flatMap_append, List.flatMap_cons, List.flatMap_nil, List.append_nil, htr]
      rw [hfl, List.length_append, List.length_cons] at hrm
      have hm : m = T.length + 1 := by
        rcases Nat.lt_trichotomy m (T.length + 1) with h | h | h
        · exfalso
          have h9 := at1 m h
          obtain ⟨e9, he9⟩ : ∃ e9, (q :: T)[m]? = some e9 := ⟨_, List.getElem?_eq_getElem (by simp; omega)⟩
          rw [he9] at h9
          have hin : fo_in par q e9 := by
            rcases List.mem_cons.mp (List.mem_of_getElem? he9) with rfl | hz
            · exact fo_in_rf par _
            · exact hT1 _ hz
          have := m4 (by omega) (by omega)
          simp only [hBr, getD_at h9] at this
          exact this ((hI q e9 lq (live_of _ _ h9)).mpr hin)
        · exact h
        · exfalso
          have := m3 (T.length + 1) h
          obtain ⟨e9, he9⟩ : ∃ e9, L[root + (T.length + 1)]? = some e9 := ⟨_, List.getElem?_eq_getElem (by omega)⟩
          simp only [hBr, getD_at he9] at this
          have hin := (hI q e9 lq (live_of _ _ he9)).mp this
          have hE : e9 ∈ E := by
            rw [e1, List.getElem?_append_right (by simp; omega)] at he9
            exact List.mem_of_getElem? he9
          exact (hE1 e9 hE).1 hin
      subst hm
      refine ih (rs ++ [q]) _ _ _ N' hpw' hrs' (fun a ha q' lq' hq' hn' => ?_) ?_ (fun j hj => ?_) (fun j hj hjl => ?_) ?_ (by simp; omega) hrec
      · rcases List.mem_append.mp ha with ha | ha
        · exact k3 a ha q' lq' hq' (fun z => hn' (List.mem_append_left _ z))
        · have : a = q := by simpa using ha
          rw [this]
          exact hql q' lq' hq' (fun z => hn' (List.mem_append_left _ z)) (fun z => hn' (by rw [z]; simp))
      · rw [hfl, List.length_append, List.length_cons, k4]; omega
      · rw [hfl, ← List.append_assoc]
        have hX : (L.take p ++ rs.flatMap (fun q => pf (fo_in par q) L)).length = to := by rw [List.length_append, hA60, k4]
        by_cases h9 : j < to
        · rw [List.getElem?_append_left (by omega), k5 j h9, ar_cp, if_neg (by omega)]
        · rw [List.getElem?_append_right (by omega), hX, ar_cp, if_pos ⟨by omega, hj⟩]
          have h8 := at1 (j - to) (by omega)
          obtain ⟨e9, he9⟩ : ∃ e9, (q :: T)[j - to]? = some e9 := ⟨_, List.getElem?_eq_getElem (by simp; omega)⟩
          rw [he9] at h8 ⊢
          rw [getD_at h8]
      · rw [ar_cp, if_neg (by omega)]
        exact k6 j (by omega) hjl
      · have hB9 : ∀ i, i < L.length → ∃ e, L[i]? = some e ∧ L.getD i 0 = e ∧ live e := fun i hi => by
          obtain ⟨e, he⟩ : ∃ e, L[i]? = some e := ⟨_, List.getElem?_eq_getElem hi⟩
          exact ⟨e, he, getD_at he, live_of i e he⟩
        have ok := ar_lr_ok (ln := L.length) (P := ar_P Q cb (fun i => L.getD i 0) (some (L.getD root 0))) (cb := cb) (B := fun i => L.getD i 0) (fun i j hi hj hP hP' hne => by
          obtain ⟨a, a1, a2, a3⟩ := hB9 i hi
          obtain ⟨b, b1, b2, b3⟩ := hB9 j hj
          have qa := hP.1
          have qb := hP'.1
          simp only [a2, b2] at qa qb ⊢
          rw [hcb a b a3 b3 qa qb, hcb b a b3 a3 qb qa]
          exact hb1.2.1 a b a3 b3 ((hQ a a3 qa).trans (hQ b b3 qb).symm) (fun z => hne (nd_idx hnd a1 (z ▸ b1)))) (fun i j k hi hj hk hP hP' hP'' => by
          obtain ⟨a, a1, a2, a3⟩ := hB9 i hi
          obtain ⟨b, b1, b2, b3⟩ := hB9 j hj
          obtain ⟨d, d1, d2, d3⟩ := hB9 k hk
          have qa := hP.1
          have qb := hP'.1
          have qd := hP''.1
          simp only [a2, b2, d2] at qa qb qd ⊢
          rw [hcb a b a3 b3 qa qb, hcb b d b3 d3 qb qd, hcb a d a3 d3 qa qd]
          exact hb1.2.2 a b d a3 b3 d3 ((hQ a a3 qa).trans (hQ b b3 qb).symm) ((hQ b b3 qb).trans (hQ d d3 qd).symm)) L.length (Nat.le_refl _)
        -- those behind q are those not done
        have beh : ∀ q', live q' → Q q' → (q' ∉ rs ++ [q] ↔ cb q q') := fun q' lq' hq' => by
          rw [hcb q q' lq lq' hQq hq']
          constructor
          · intro hn'
            exact hql q' lq' hq' (fun z => hn' (List.mem_append_left _ z)) (fun z => hn' (by rw [z]; simp))
          · intro hs hm
            rcases List.mem_append.mp hm with hm | hm
            · have := k3 q' hm q lq hQq hqn
              have pp := (hQ q' lq' hq').trans (hQ q lq hQq).symm
              exact hb1.1 q lq (hb1.2.2 q q' q lq lq' lq pp.symm pp hs this)
            · have : q' = q := by simpa using hm
              rw [this] at hs; exact hb1.1 q lq hs
        have hP9 : ∀ (i e : Nat), L[i]? = some e → (ar_P Q cb (fun i => L.getD i 0) (some (L.getD root 0)) i ↔ Q e ∧ cb q e) := fun i e he => by
          unfold ar_P
          simp only [hBr, getD_at he]
          exact ⟨fun z => ⟨z.1, z.2 q rfl⟩, fun z => ⟨z.1, fun q' hq' => by cases hq'; exact z.2⟩⟩
        rcases ok with ⟨o1, o2⟩ | ⟨o1, o2, o3⟩
        · refine Or.inl ⟨o1, fun q' lq' hq' => ?_⟩
          by_cases hm : q' ∈ rs ++ [q]
          · exact hm
          · exfalso
            obtain ⟨i, hi⟩ := List.getElem?_of_mem ((hL q').mpr lq')
            exact o2 i (List.getElem?_eq_some_iff.mp hi).1 ((hP9 i q' hi).mpr ⟨hq', (beh q' lq' hq').mp hm⟩)
        · obtain ⟨e9, he9, -, le9⟩ := hB9 _ o1
          obtain ⟨w1, w2⟩ := (hP9 _ e9 he9).mp o2
          refine Or.inr ⟨e9, he9, w1, (beh e9 le9 w1).mpr w2, fun q' lq' hq' hn' hne => ?_⟩
          obtain ⟨i, hi⟩ := List.getElem?_of_mem ((hL q').mpr lq')
          have := o3 i (List.getElem?_eq_some_iff.mp hi).1 ((hP9 i q' hi).mpr ⟨hq', (beh q' lq' hq').mp hn'⟩) (fun z => hne (by rw [z, he9] at hi; exact (Option.some.inj hi).symm))
          simp only [getD_at he9, getD_at hi] at this
          exact (hcb e9 q' le9 lq' w1 hq').mp this
end AR
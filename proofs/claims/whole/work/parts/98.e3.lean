/-! a tree is deleted: what the reference holds -/
def aD (A : aA) (p q : Nat → Int32) : aA := fun j i => if j = 14 then p i else if j = 17 then q i else A j i
def aG (A : aA) (top s : Nat) : Prop := aLive A s ∧ aIn A top s
def dP (A : aA) (top : Nat) (p : Nat → Int32) : Prop := ∀ s, s < 60 → (aG A top s ∧ p s = 0) ∨ (¬ aG A top s ∧ p s = A 14 s)
def dQ (A : aA) (top : Nat) (q : Nat → Int32) : Prop := ∀ b, b < 60 → ¬ aG A top b → ((∃ s, aG A top s ∧ A 17 s = nI b) ∧ q b = -1) ∨ ((¬ ∃ s, aG A top s ∧ A 17 s = nI b) ∧ q b = A 17 b)
def dV (A : aA) (top : Nat) (w v : Int32) : Prop := (v = -1 ∧ ∃ s, aG A top s ∧ w = nI s) ∨ (v = w ∧ ¬ ∃ s, aG A top s ∧ w = nI s)
theorem pf_len (P : Nat → Prop) : ∀ L, L.length = (pf P L).length + (pf (fun e => ¬ P e) L).length
  | [] => rfl
  | a :: L => by
    have ih := pf_len P L
    by_cases h : P a
    · rw [pf_t h, pf_f (P := fun e => ¬ P e) (fun z => z h), List.length_cons, List.length_cons]; omega
    · rw [pf_f h, pf_t (P := fun e => ¬ P e) h, List.length_cons, List.length_cons]; omega
section DL
variable {A : aA} {f : aF} {n sw t2 top : Nat} {p q : Nat → Int32} {LB LN : List Nat} {v w : Int32}
theorem aD_live (hp : dP A top p) {e : Nat} : aLive (aD A p q) e ↔ aLive A e ∧ ¬ aIn A top e := by
  constructor
  · rintro ⟨h1, h2⟩
    have h2 : 0 < p e := h2
    rcases hp e h1 with ⟨z1, z2⟩ | ⟨z1, z2⟩
    · rw [z2] at h2; exact absurd h2 (by decide)
    · rw [z2] at h2; exact ⟨⟨h1, h2⟩, fun z => z1 ⟨⟨h1, h2⟩, z⟩⟩
  · rintro ⟨h1, h2⟩
    rcases hp e h1.1 with ⟨z1, z2⟩ | ⟨z1, z2⟩
    · exact absurd z1.2 h2
    · exact ⟨h1.1, by show 0 < p e; rw [z2]; exact h1.2⟩
theorem aD_14 (hp : dP A top p) {e : Nat} (le : aLive A e) (ni : ¬ aIn A top e) : p e = A 14 e := by
  rcases hp e le.1 with ⟨z1, z2⟩ | ⟨z1, z2⟩
  · exact absurd z1.2 ni
  · exact z2
theorem aD_par (hW : aWl A) {e b : Nat} (le : aLive A e) (ni : ¬ aIn A top e) (h16 : A 16 e = nI b) (lb : aLive A b) : ¬ aIn A top b := fun ⟨u, hu⟩ => by
  have := lb.1
  have ep : aP A e = some b := by rw [aP, h16, if_neg (nI_neg (by omega)), nI_clamp (by omega)]
  exact ni ⟨u ++ [e], by rw [fo_c_some (aWl_fo hW) le ep, hu, List.append_assoc]⟩
theorem s0_del (hp : dP A top p) {a b : Nat} (la : aLive A a) (na : ¬ aIn A top a) (lb : aLive A b) (nb : ¬ aIn A top b) : s0 (aD A p q) a b ↔ s0 A a b := by
  have ea : aD A p q 14 a = A 14 a := aD_14 hp la na
  have eb : aD A p q 14 b = A 14 b := aD_14 hp lb nb
  unfold s0 aSq2
  rw [ea, eb]
  exact Iff.rfl
theorem aD_cnt (hp : dP A top p) (hn : LB.Nodup) (hm : ∀ e, e ∈ LB ↔ aLive A e) : mCnt (aLive (aD A p q)) 60 = (pf (fun e => ¬ aIn A top e) LB).length ∧ mCnt (aG A top) 60 = (pf (aIn A top) LB).length ∧ LB.length = mCnt (aG A top) 60 + (pf (fun e => ¬ aIn A top e) LB).length := by
  have e1 : (pf (fun e => ¬ aIn A top e) LB).length = mCnt (aLive (aD A p q)) 60 := mCnt_len 60 _ (List.Nodup.sublist List.filter_sublist hn) (fun s => by
    rw [pf_mem, hm s, aD_live hp]
    exact ⟨fun z => ⟨z.1.1, z⟩, fun z => z.2⟩)
  have e2 : (pf (aIn A top) LB).length = mCnt (aG A top) 60 := mCnt_len 60 _ (List.Nodup.sublist List.filter_sublist hn) (fun s => by
    rw [pf_mem, hm s]
    exact ⟨fun z => ⟨z.1.1, z⟩, fun z => z.2⟩)
  exact ⟨e1.symm, e2.symm, by rw [← e2]; exact pf_len _ _⟩
theorem aM_del (hM : aM A f n sw t2) (hp : dP A top p) (hq : dQ A top q) (hv : dV A top (f 31) v) (hn : LB.Nodup) (hm : ∀ e, e ∈ LB ↔ aLive A e) : aM (aD A p q) (qU (qU (qU f 30 (-1)) 31 v) 13 (nI LB.length - nI (mCnt (aG A top) 60))) n sw t2 := by
  obtain ⟨m1, m2, m3, m4, m5, m6, m7, m8, m9, m10, m11, m12, m13, m14⟩ := hM
  obtain ⟨k1, k2, k3⟩ := aD_cnt (q := q) hp hn hm
  have lv := fun e => aD_live (q := q) (e := e) hp
  refine ⟨fun e le => ?_, m2, fun e le => m3 e ((lv e).mp le).1, m4, fun a b la lb hab => ?_, ?_, ?_, m8, m9, m10, fun e le => ?_, Or.inl rfl, ?_, fun e le => ?_⟩
  · obtain ⟨le0, ni⟩ := (lv e).mp le
    obtain ⟨q1, q2, q3, q4, q5, q6⟩ := m1 e le0
    exact ⟨q1, q2, q3, q4, q5, q6.imp id (fun ⟨b, lb, w1, w2⟩ => ⟨b, (lv b).mpr ⟨lb, aD_par m1 le0 ni w1 lb⟩, w1, w2⟩)⟩
  · obtain ⟨la0, na⟩ := (lv a).mp la
    obtain ⟨lb0, nb⟩ := (lv b).mp lb
    have hab : p a = p b := hab
    rw [aD_14 hp la0 na, aD_14 hp lb0 nb] at hab
    exact m5 a b la0 lb0 hab
  · show nI LB.length - nI (mCnt (aG A top) 60) = nI (mCnt (aLive (aD A p q)) 60)
    rw [nI_sub9 (by omega), k1]
    congr 1
    omega
  · obtain ⟨k, w1, w2, w3⟩ := m7
    refine ⟨k, w1, w2, fun e le => ?_⟩
    obtain ⟨le0, ni⟩ := (lv e).mp le
    obtain ⟨j, j1, j2⟩ := w3 e le0
    exact ⟨j, j1, (aD_14 hp le0 ni).trans j2⟩
  · obtain ⟨le0, ni⟩ := (lv e).mp le
    have ng : ¬ aG A top e := fun z => ni z.2
    have e60 := le0.1
    show q e = -1 ∨ _
    rcases hq e le0.1 ng with ⟨-, z2⟩ | ⟨z1, z2⟩
    · exact Or.inl z2
    · rw [z2]
      refine (m11 e le0).imp id (fun ⟨b, lb, w1, w2, w3, w4⟩ => ?_)
      have b60 := lb.1
      have nb : ¬ aG A top b := fun z => z1 ⟨b, z, w2⟩
      have nib : ¬ aIn A top b := fun z => nb ⟨lb, z⟩
      refine ⟨b, (lv b).mpr ⟨lb, nib⟩, z2.trans w1, ?_, w3, w4⟩
      show q b = nI e
      rcases hq b lb.1 nb with ⟨⟨s, gs, y1⟩, -⟩ | ⟨-, y2⟩
      · exfalso
        rcases m11 s gs.1 with y | ⟨d, ld, y2, y3, -⟩
        · exact nI_neg (by omega) (y1.symm.trans y)
        · have d60 := ld.1
          have s60 := gs.1.1
          have : d = b := nI_eqI9 (by omega) (by omega) (y2.symm.trans y1)
          rw [this, w2] at y3
          have : e = s := nI_eqI9 (by omega) (by omega) y3
          exact ng (this ▸ gs)
      · rw [y2]; exact w2
  · show aLn (aD A p q) v
    rcases hv with ⟨z, -⟩ | ⟨z1, z2⟩
    · exact Or.inl z
    · rw [z1]
      exact m13.imp id (fun ⟨b, lb, w1⟩ => ⟨b, (lv b).mpr ⟨lb, fun z => z2 ⟨b, ⟨lb, z⟩, w1⟩⟩, w1⟩)
  · obtain ⟨le0, ni⟩ := (lv e).mp le
    exact ⟨(m14 e le0).1, fun b lb z => (m14 e le0).2 b ((lv b).mp lb).1 z⟩
theorem aD_pw (hM : aM A f n sw t2) (hM2 : aM (aD A p q) f n sw t2 ∨ (aWl (aD A p q) ∧ aNum (aD A p q))) (hp : dP A top p) (hm : ∀ e, e ∈ LB ↔ aLive A e) (hl : LB.Pairwise (fo_R (aLive A) (aP A) (s0 A))) : (pf (fun e => ¬ aIn A top e) LB).Pairwise (fo_R (aLive (aD A p q)) (aP (aD A p q)) (s0 (aD A p q))) := by
  have h2 : aWl (aD A p q) ∧ aNum (aD A p q) := hM2.elim (fun z => ⟨z.1, z.2.2.2.2.1⟩) id
  have lv := fun e => aD_live (q := q) (e := e) hp
  refine List.Pairwise.imp_of_mem (fun {a b} ha hb hab => ?_) (pf_pw hl)
  obtain ⟨ha1, ha2⟩ := pf_mem.mp ha
  obtain ⟨hb1, hb2⟩ := pf_mem.mp hb
  refine (fo_R_ext (live := aLive (aD A p q)) (par := aP (aD A p q)) (lv := aLv (aD A p q)) (sib := s0 (aD A p q)) (aWl_fo h2.1) (s0_sb h2.2) (aWl_fo hM.1) (s0_sb hM.2.2.2.2.1) (fun e le => ((lv e).mp le).1) (fun e le => ⟨rfl, rfl⟩) (fun a b la lb => ?_) ((lv a).mpr ⟨(hm a).mp ha1, ha2⟩) ((lv b).mpr ⟨(hm b).mp hb1, hb2⟩)).mp hab
  obtain ⟨la0, na⟩ := (lv a).mp la
  obtain ⟨lb0, nb⟩ := (lv b).mp lb
  exact (s0_del hp la0 na lb0 nb).symm
/-- such arrays are -/
theorem dP_ex (A : aA) (top : Nat) : ∃ p, dP A top p := ⟨fun s => @ite _ (aG A top s) (Classical.propDecidable _) 0 (A 14 s), fun s _ => by
  by_cases h : aG A top s
  · exact Or.inl ⟨h, if_pos h⟩
  · exact Or.inr ⟨h, if_neg h⟩⟩
theorem dQ_ex (A : aA) (top : Nat) : ∃ q, dQ A top q := ⟨fun b => @ite _ (∃ s, aG A top s ∧ A 17 s = nI b) (Classical.propDecidable _) (-1) (A 17 b), fun b _ _ => by
  by_cases h : ∃ s, aG A top s ∧ A 17 s = nI b
  · exact Or.inl ⟨h, if_pos h⟩
  · exact Or.inr ⟨h, if_neg h⟩⟩
theorem dV_ex (A : aA) (top : Nat) (w : Int32) : ∃ v, dV A top w v := by
  by_cases h : ∃ s, aG A top s ∧ w = nI s
  · exact ⟨-1, Or.inl ⟨rfl, h⟩⟩
  · exact ⟨w, Or.inr ⟨rfl, h⟩⟩
/-- the tree stands in one piece -/
theorem tree_at {sib : Nat → Nat → Prop} (hW : aWl A) (hb : fo_sb (aLive A) (aP A) sib) (lt : aLive A top) (hm : ∀ e, e ∈ LN ↔ aLive A e) (hl : LN.Pairwise (fo_R (aLive A) (aP A) sib)) {k : Nat} (hk : LN[k]? = some top) : k + mCnt (aG A top) 60 ≤ LN.length ∧ (∀ (i e : Nat), LN[i]? = some e → k ≤ i → i < k + mCnt (aG A top) 60 → aIn A top e) ∧ ∀ e, LN[k + mCnt (aG A top) 60]? = some e → ¬ aIn A top e := by
  have hnd : LN.Nodup := pw_nodup (fun a => fo_R_irr a) hl
  obtain ⟨X, T, C, e1, h1, h2, h3⟩ := fo_tree (aWl_fo hW) hb lt (fun e he => (hm e).mp he) hl ((hm top).mpr lt)
  have hX : LN[X.length]? = some top := by rw [e1, List.append_assoc, List.getElem?_append_right (Nat.le_refl _), Nat.sub_self]; rfl
  have ek : k = X.length := nd_idx hnd hk hX
  have hin : ∀ e, e ∈ top :: T → aIn A top e := fun e he => by
    rcases List.mem_cons.mp he with z | z
    · rw [z]; exact fo_in_rf _ _
    · exact h2 e z
  have en : (top :: T).length = mCnt (aG A top) 60 := by
    refine mCnt_len 60 _ ?_ (fun s => ⟨fun z => ?_, fun z => ?_⟩)
    · rw [e1, List.append_assoc] at hnd
      exact (List.nodup_append.mp (List.nodup_append.mp hnd).2.1).1
    · have : aLive A s := (hm s).mp (by rw [e1]; simp only [List.mem_append]; exact Or.inl (Or.inr z))
      exact ⟨this.1, this, hin s z⟩
    · have : s ∈ LN := (hm s).mpr z.2.1
      rw [e1] at this
      rcases List.mem_append.mp this with y | y
      · rcases List.mem_append.mp y with y | y
        · exact absurd z.2.2 (h1 s y).1
        · exact y
      · exact absurd z.2.2 (h3 s y).1
  rw [← en, ek, e1]
  refine ⟨by simp only [List.length_append]; omega, fun i e hi i1 i2 => ?_, fun e he => ?_⟩
  · rw [List.append_assoc, List.getElem?_append_right i1, List.getElem?_append_left (by omega)] at hi
    exact hin e (List.mem_of_getElem? hi)
  · rw [List.getElem?_append_right (by simp only [List.length_append]; omega)] at he
    exact (h3 e (List.mem_of_getElem? he)).1
end DL
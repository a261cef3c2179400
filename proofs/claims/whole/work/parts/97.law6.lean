/-! THE CLAIM OUT OF ONE WALK OF THE LAW'S BODY. Your part is whole_start (and what it stands on); all else here is the same for every law, but numbers. -/
def R_law : String := "SegmentTreesLaw"
def lw_P (b : Addr) (xs : List Int32) (args : Array Value) (s : State) : Prop := args = #[.ref b] ∧ s.IntsAt b xs ∧ xs.length ≤ 3584 ∧ (Jvm.Cond.and given_1 narrow_1).before args s = true
def lw_Q (_ : Array Value) (s : State) (o : Outcome) (t : State) : Prop := o = .returned (some (.int 1)) ∧ Framed s o t [] 614791 7251732
def lw_Z (below : List Frame) (a : Array Value) (s : State) : State → Prop := fun t => ∃ o, t.status = .running ∧ Ended t below o ∧ lw_Q a s o t
/-- the law's own end, with 1 on the stack, nothing written that was there before, its room as the claim has it -/
theorem lw_ret {p : Program} {l : Launch} {e : Env} {s : State} {m : MethodId} {below : List Frame} {meth : Method} {c : Code} {b : Nat} (hx : p.tables.exec = Jvm.exec) (hb : c.code = code) (hr : meth.sig.returnType = ret) (hlocks : meth.locks = false) {pc : Nat} {H : Heap} {ls : Array Slot} (hdg : decode code pc = .ok (.ireturn, 1)) : W p l e room_1 s m #[Value.ref b] below meth c H [] 614791 7251732 (lw_Z below #[Value.ref b] s) (F0 m pc ls [.int 1]) := by
  intro T hT X
  obtain ⟨fs, hret, hrun, hended, hW, hframe⟩ := X.leave (v := some (.int 1)) (hlocks := hlocks) (fun h => by rw [hr] at h; cases h)
  have hmeth' : T.vm.method? m = some meth := X.method'
  refine ⟨T.setFrames fs, ?_, .returned (some (.int 1)), hrun, hended, rfl, ⟨_, rfl⟩, hW, hframe⟩
  jvm_step X.here [X.here.top, hx, hb, hdg, hmeth', hr, ret, narrow_b1]
  (try refine ⟨rfl, ?_⟩); (try refine ⟨rfl, ?_⟩)
  first | (intro acts; rw [hret _ acts rfl rfl rfl]) | rw [hret _ _ rfl rfl rfl]
  exact Steps.refl _
/-- what holds at the law's entry: the machine, the code, the tables' words (any of lw_tbl by 'hts w (by decide +kernel)'), the script of L ints xs at the cell b, what the Statement gives of the start (any of its parts by flat_of_before) -/
def lw_At (p : Program) (s : State) (m : MethodId) (meth : Method) (c : Code) (b L : Nat) (xs : Nat → Int32) : Prop :=
  p.tables.exec = Jvm.exec ∧ c.code = code ∧ meth.sig.returnType = ret ∧ c.maxLocals = 7 ∧ s.vm.findClass R_law = some m.cls ∧ (∀ w ∈ lw_tbl, w.before #[Value.ref b] s = true) ∧ va_X b L xs s s.heap ∧ b < s.heap.size ∧ meth.locks = false ∧ (Jvm.Cond.and given_1 narrow_1).before #[Value.ref b] s = true

/-! the start -/
def zz_hs (b L : Nat) (xs : Nat → Int32) : zz_H := ((fun a => if a = b then some (93, L) else none), (fun _ _ _ => 0), (fun _ _ _ => none), (fun a j => if a = b then xs j else 0), (fun _ _ => none), (fun _ _ => 0))
theorem zz_hs_tg {b L a : Nat} {xs : Nat → Int32} {t : Nat × Nat} (h : zz_tg (zz_hs b L xs) a = some t) : a = b ∧ t = (93, L) := by
  have h' : (if a = b then some (93, L) else none) = some t := h
  by_cases e : a = b
  · rw [if_pos e] at h'; exact ⟨e, (Option.some.inj h').symm⟩
  · rw [if_neg e] at h'; cases h'
theorem zz_hs_b (b L : Nat) (xs : Nat → Int32) : zz_tg (zz_hs b L xs) b = some (93, L) := if_pos rfl
theorem zz_hs_W {D : va_G} {DA : Nat → ClassId} {s : State} {b L : Nat} {xs : Nat → Int32} (hX : va_X b L xs s s.heap) : zz_W D DA s (zz_hs b L xs) s.heap := by
  refine ⟨fun a e he => ?_, fun a n ht => ?_, ⟨fun a ci n k ty ht hc => ?_, fun a ty n j ht hc => ?_⟩⟩
  · cases ht : zz_tg (zz_hs b L xs) a with
    | none => rw [zz_cell, ht] at he; cases he
    | some t =>
      obtain ⟨-, e2⟩ := zz_hs_tg ht
      subst e2
      rw [zz_cell, ht] at he
      simp at he
  · obtain ⟨e1, e2⟩ := zz_hs_tg ht
    cases e2
    subst e1
    have : zz_aI (zz_hs a L xs) a = xs := by
      funext j
      exact if_pos rfl
    rw [this]
    exact hX
  · obtain ⟨-, e2⟩ := zz_hs_tg ht
    cases e2
    omega
  · obtain ⟨-, e2⟩ := zz_hs_tg ht
    cases e2
    omega
theorem zz_arrP {s : State} {args : Array Value} {ty : FieldType} (h9 : ∀ C, ty ≠ .object C) (h : (Cond.arrayClass ty).before args s = true) : ∃ cA, ArrOfT s cA ty ∧ va_RA s cA ty := by
  obtain ⟨cA, kA, comp, h1, h2, h3⟩ := Cond.arrayClass_spec h
  refine ⟨cA, fun n z => ⟨fun k h => (by cases h), kA, h2, comp, h3⟩, ?_⟩
  cases ty with
  | object C => exact absurd rfl (h9 C)
  | _ => exact h1
theorem zz_arrO {s : State} {args : Array Value} {C : String} (h : (Cond.arrayOver (.object C)).before args s = true) : ∃ cA, ArrOfT s cA (.object C) ∧ va_RA s cA (.object C) := by
  obtain ⟨comp, cA, kA, h1, h2, h3, h4, h5⟩ := Cond.arrayOver_spec h
  exact ⟨cA, fun n z => ⟨fun k h => (by cases h), kA, h3, comp, h4⟩, kA, comp, h3, h4, h1, h5⟩
theorem zz_K_of {s : State} {args : Array Value} (hts : ∀ w ∈ zz_all, w.before args s = true) : ∃ D DA, zz_K D DA s := by
  have hk : ∀ ci C T N, zz_cl[ci]? = some (C, T, N) → Cond.instantiable C N ∈ zz_all → ∃ (cC : ClassId) (iS : Nat → Nat), u_Kn s C T N cC iS := fun ci C T N h1 h2 => u_known hts (zz_okC ci C T N h1).2.2.2.2.1 (hts _ h2)
  obtain ⟨c0, i0, K0⟩ := hk 0 _ _ _ rfl ni_T
  obtain ⟨c1, i1, K1⟩ := hk 1 _ _ _ rfl ni_K
  obtain ⟨c2, i2, K2⟩ := hk 2 _ _ _ rfl ni_S
  obtain ⟨c3, i3, K3⟩ := hk 3 _ _ _ rfl ni_L
  obtain ⟨c4, i4, K4⟩ := hk 4 _ _ _ rfl ni_P
  obtain ⟨c5, i5, K5⟩ := hk 5 _ _ _ rfl ni_O
  obtain ⟨c6, i6, K6⟩ := hk 6 _ _ _ rfl ni_Q
  obtain ⟨c7, i7, K7⟩ := hk 7 _ _ _ rfl ni_M
  obtain ⟨r0, R0⟩ := zz_arrP (s := s) (ty := .int) (fun _ h => by cases h) (hts _ an_a_I)
  obtain ⟨r1, R1⟩ := zz_arrP (s := s) (ty := .boolean) (fun _ h => by cases h) (hts _ an_a_B)
  obtain ⟨r2, R2⟩ := zz_arrP (s := s) (ty := .long) (fun _ h => by cases h) (hts _ an_a_L)
  obtain ⟨r3, R3⟩ := zz_arrO (s := s) (hts _ an_o_objectSegmentTreesKind)
  obtain ⟨r4, R4⟩ := zz_arrO (s := s) (hts _ an_o_objectSegmentTreesSegment)
  obtain ⟨r5, R5⟩ := zz_arrO (s := s) (hts _ an_o_objectSegmentTreesPathLevel)
  refine ⟨((fun c => match c with | 0 => c0 | 1 => c1 | 2 => c2 | 3 => c3 | 4 => c4 | 5 => c5 | 6 => c6 | _ => c7), (fun c => match c with | 0 => i0 | 1 => i1 | 2 => i2 | 3 => i3 | 4 => i4 | 5 => i5 | 6 => i6 | _ => i7)), (fun t => match t with | 90 => r0 | 91 => r1 | 92 => r2 | 101 => r3 | 102 => r4 | _ => r5), fun c q hq => ?_, fun k q hq => ?_⟩
  · match c with
    | 0 => cases hq; exact K0
    | 1 => cases hq; exact K1
    | 2 => cases hq; exact K2
    | 3 => cases hq; exact K3
    | 4 => cases hq; exact K4
    | 5 => cases hq; exact K5
    | 6 => cases hq; exact K6
    | 7 => cases hq; exact K7
    | n + 8 => cases hq
  · match k with
    | 0 => cases hq; exact R0
    | 1 => cases hq; exact R1
    | 2 => cases hq; exact R2
    | 3 => cases hq; exact R3
    | 4 => cases hq; exact R4
    | 5 => cases hq; exact R5
    | n + 6 => cases hq
set_option maxRecDepth 100000 in
set_option maxHeartbeats 4000000 in
theorem xx_R_of {s : State} {args : Array Value} (hts : ∀ w ∈ lw_tbl, w.before args s = true) (hgv : (Jvm.Cond.and given_1 narrow_1).before args s = true) : xx_R s := by
  have hs := flat_of_before _ hgv
  have one : ∀ k tx, (Cond.stringRef "SegmentTrees" k tx).before args s = true → (Cond.exactly (.string "SegmentTrees" k) "java/lang/String").before args s = true → ∃ a, vk_R "SegmentTrees" k tx a s := fun k tx h1 h2 => by
    obtain ⟨a, c, cell, kk, g1, -⟩ := Cond.exactly_spec h2
    exact ⟨a, vk_R.of h1 g1⟩
  intro q hq
  unfold xx_strs at hq
  simp only [List.mem_cons, List.not_mem_nil, or_false] at hq
  rcases hq with rfl | rfl | rfl | rfl | rfl | rfl | rfl | rfl | rfl | rfl | rfl | rfl | rfl | rfl | rfl | rfl | rfl | rfl | rfl | rfl | rfl
  · exact one 46 _ (hts _ (List.mem_of_getElem? (i := 329) (by decide +kernel))) (hs _ (by decide +kernel))
  · exact one 55 _ (hts _ (List.mem_of_getElem? (i := 360) (by decide +kernel))) (hs _ (by decide +kernel))
  · exact one 61 _ (hts _ (List.mem_of_getElem? (i := 361) (by decide +kernel))) (hs _ (by decide +kernel))
  · exact one 63 _ (hts _ (List.mem_of_getElem? (i := 362) (by decide +kernel))) (hs _ (by decide +kernel))
  · exact one 65 _ (hts _ (List.mem_of_getElem? (i := 363) (by decide +kernel))) (hs _ (by decide +kernel))
  · exact one 69 _ (hts _ (List.mem_of_getElem? (i := 373) (by decide +kernel))) (hs _ (by decide +kernel))
  · exact one 266 _ (hts _ (List.mem_of_getElem? (i := 384) (by decide +kernel))) (hs _ (by decide +kernel))
  · exact one 264 _ (hts _ (List.mem_of_getElem? (i := 440) (by decide +kernel))) (hs _ (by decide +kernel))
  · exact one 81 _ (hts _ (List.mem_of_getElem? (i := 441) (by decide +kernel))) (hs _ (by decide +kernel))
  · exact one 89 _ (hts _ (List.mem_of_getElem? (i := 442) (by decide +kernel))) (hs _ (by decide +kernel))
  · exact one 95 _ (hts _ (List.mem_of_getElem? (i := 447) (by decide +kernel))) (hs _ (by decide +kernel))
  · exact one 101 _ (hts _ (List.mem_of_getElem? (i := 448) (by decide +kernel))) (hs _ (by decide +kernel))
  · exact one 106 _ (hts _ (List.mem_of_getElem? (i := 456) (by decide +kernel))) (hs _ (by decide +kernel))
  · exact one 112 _ (hts _ (List.mem_of_getElem? (i := 457) (by decide +kernel))) (hs _ (by decide +kernel))
  · exact one 121 _ (hts _ (List.mem_of_getElem? (i := 469) (by decide +kernel))) (hs _ (by decide +kernel))
  · exact one 131 _ (hts _ (List.mem_of_getElem? (i := 494) (by decide +kernel))) (hs _ (by decide +kernel))
  · exact one 148 _ (hts _ (List.mem_of_getElem? (i := 502) (by decide +kernel))) (hs _ (by decide +kernel))
  · exact one 154 _ (hts _ (List.mem_of_getElem? (i := 510) (by decide +kernel))) (hs _ (by decide +kernel))
  · exact one 173 _ (hts _ (List.mem_of_getElem? (i := 528) (by decide +kernel))) (hs _ (by decide +kernel))
  · exact one 214 _ (hts _ (List.mem_of_getElem? (i := 669) (by decide +kernel))) (hs _ (by decide +kernel))
  · exact one 242 _ (hts _ (List.mem_of_getElem? (i := 704) (by decide +kernel))) (hs _ (by decide +kernel))
set_option maxRecDepth 100000 in
set_option maxHeartbeats 4000000 in
theorem xx_G_of {s : State} {args : Array Value} {A : Nat → Prop} (hts : ∀ w ∈ lw_tbl, w.before args s = true) (hgv : (Jvm.Cond.and given_1 narrow_1).before args s = true) (hA : ∀ a : Nat, a < s.heap.size → ¬ A a) : xx_G A s s.heap := by
  have hs := flat_of_before _ hgv
  exact ⟨xx_Z_of (hts _ (List.mem_of_getElem? (i := 315) (by decide +kernel))) (hs _ (by decide +kernel)) hA, xx_Z_of (hts _ (List.mem_of_getElem? (i := 317) (by decide +kernel))) (hs _ (by decide +kernel)) hA, xx_R_of hts hgv⟩
set_option maxRecDepth 100000 in
set_option maxHeartbeats 4000000 in
theorem xx_N_of {s : State} {args : Array Value} (hgv : (Jvm.Cond.and given_1 narrow_1).before args s = true) : xx_N s := by
  have hs := flat_of_before _ hgv
  exact ⟨va_Nc.of (hs (Cond.not (.castable "java/lang/IllegalStateException" "java/lang/IllegalArgumentException")) (by decide +kernel)), va_Nc.of (hs (Cond.not (.castable "java/lang/IndexOutOfBoundsException" "java/lang/IllegalStateException")) (by decide +kernel))⟩
def st_init (I : lw_I) : Prop := ∀ b L xs x, x ≠ b → zz_up T_T_init [zz_r 0 (some x)] (zz_new (zz_hs b L xs) 0 x) (fun v h1 => v = none ∧ ∀ r, zz_tg h1 r = none → zz_up T_M_init [zz_r 7 (some r)] (zz_new h1 7 r) (fun w h2 => w = none ∧ ∀ u, zz_tg h2 u = none → I 0 (zz_newA h2 92 1 u) x r u))
set_option maxRecDepth 100000 in
set_option maxHeartbeats 4000000 in
theorem whole_start {p : Program} {e : Env} {s : State} {m : MethodId} {below : List Frame} {meth : Method} {c : Code} (l : Launch) {b L : Nat} {xs : Nat → Int32} {I : lw_I} (hl : l.stackTraces = false) (hst : lw_steps I) (hin : st_init I) (hL : L ≤ 3584) (C0 : lw_At p s m meth c b L xs) : W p l e room_1 s m #[Value.ref b] below meth c s.heap [] 0 0 (lw_Z below #[Value.ref b] s) (entryFrame m ([Value.ref b] : List Value).toArray 7) := by
  obtain ⟨hx, hb, hr, hml, hown, hts, hX, hbl, hlk, hgv⟩ := C0
  have hta : ∀ w ∈ zz_all, w.before #[Value.ref b] s = true := fun w hw => hts w (zz_tbl w hw)
  obtain ⟨D, DA, hK⟩ := zz_K_of hta
  have C : zz_C p s m #[Value.ref b] c code 7 "SegmentTreesLaw" D DA := ⟨⟨hx, hb, hml, hown, hta⟩, hK⟩
  have hA : ∀ q, zz_A (zz_hs b L xs) s.heap.size q → s.heap.size ≤ q := by
    rintro q (⟨ty, n, h1, h2⟩ | h1)
    · obtain ⟨-, e2⟩ := zz_hs_tg h1
      cases e2
      exact absurd rfl h2
    · exact h1
  have hG : xx_G (zz_A (zz_hs b L xs) s.heap.size) s s.heap := xx_G_of hts hgv (fun a ha z => by have := hA a z; omega)
  have hN : xx_N s := xx_N_of hgv
  have hW : zz_W D DA s (zz_hs b L xs) s.heap := zz_hs_W hX
  have hT : zz_T (zz_hs b L xs) [zz_r 93 (some b)] := fun v hv => by
    rcases List.mem_cons.mp hv with rfl | hv
    · intro a ha
      cases ha
      exact ⟨L, zz_hs_b _ _ _⟩
    · cases hv
  have hZ : zz_Z p l e room_1 s m #[Value.ref b] below meth c (lw_Z below #[Value.ref b] s) D DA (zz_A (zz_hs b L xs) s.heap.size) (zz_hs b L xs) 7 0 ([zz_r 93 (some b)].map some ++ List.replicate (7 - [zz_r 93 (some b)].length) none) [] (zz_hs b L xs) 0 0 := by
    refine zz_newO (q := 3) (ci := 0) C rfl kl_W_8 ni_T nj_T (by decide +kernel) rfl (by decide) (by decide) (fun x n0 => ?_)
    refine zz_dup (q := 4) C (by decide +kernel) rfl rfl ?_
    refine zz_callI (q := 7) C (zz_Met_up (m_T_init l)) ci_W_59 (by decide +kernel) rfl rfl rfl rfl (by decide) (by decide) (Nat.le_of_ble_eq_true rfl) ?_
    refine zz_up_mono (hin b L xs x (fun z => by rw [z, zz_hs_b] at n0; cases n0)) (fun v h1 hv => ?_)
    obtain ⟨rfl, hv⟩ := hv
    refine zz_astore_n (q := 8) (f := 1) (i := 1) C (by decide +kernel) rfl rfl (by decide) rfl ?_
    refine zz_newO (q := 11) (ci := 7) C rfl kl_W_60 ni_M nj_M (by decide +kernel) rfl (by decide) (by decide) (fun r n1 => ?_)
    refine zz_dup (q := 12) C (by decide +kernel) rfl rfl ?_
    refine zz_callI (q := 15) C (zz_Met_up (m_M_init l)) ci_W_62 (by decide +kernel) rfl rfl rfl rfl (by decide) (by decide) (Nat.le_of_ble_eq_true rfl) ?_
    refine zz_up_mono (hv r n1) (fun w h2 hw => ?_)
    obtain ⟨rfl, hw⟩ := hw
    refine zz_astore_n (q := 16) (f := 2) (i := 2) C (by decide +kernel) rfl rfl (by decide) rfl ?_
    refine zz_iconst (q := 17) (n := 1) (x := 1) C (by decide +kernel) rfl (by decide +kernel) ?_
    refine zz_newL (q := 19) (at9 := .long) (N := 1) C rfl an_a_L (by decide +kernel) (by decide) (by decide +kernel) rfl (by decide) (by decide) (fun u n2 => ?_)
    refine zz_astore_n (q := 20) (f := 3) (i := 3) C (by decide +kernel) rfl rfl (by decide) rfl ?_
    refine zz_iconst (q := 21) (n := 0) (x := 0) C (by decide +kernel) rfl (by decide +kernel) ?_
    refine zz_istore (q := 23) (i := 4) C (by decide +kernel) rfl (by decide) rfl ?_
    refine zz_wide (k := 49 + 4 * 0) (n := 1090 + 24 * 0) (by decide) (by decide) ?_
    refine lw_loop (I := I) (b := b) (L9 := L) (xs := xs) (x := x) (r := r) (u := u) C hl hG hN (zz_hs_b b L xs) hX hL hst ?_ 513 0 _ none none (by omega) (by omega) (hw u n2)
    intro n h v5 v6 hn
    refine zz_iconst (q := 1056) (n := 1) (x := 1) C (by decide +kernel) rfl (by decide +kernel) ?_
    intro H locs ls hW9 hS9 hle hTL hTS hL9
    refine va_forget (fun q hq => hA _ (hS9.1.2.2 q hq)) (W.widen (k := 614791) (n := 7251732) (by omega) (by omega) ?_)
    exact lw_ret (pc := 1056) hx hb hr hlk (by decide +kernel)
  rw [lg_entry_eq]
  exact hZ s.heap [] _ hW (zz_S0 hW) (zz_le_rf _) (zz_TL0 hT) (fun _ hz => by cases hz) (zz_entry (as := [zz_r 93 (some b)]) (n := 7) (fun v hv => by simp at hv; rw [hv]; rfl) (by simp))
set_option maxHeartbeats 4000000 in
theorem lw_walk {I : lw_I} (hst : lw_steps I) (hin : st_init I) (l : Launch) (hl : l.stackTraces = false) (b : Addr) (xs : List Int32) : MetFree l x (headSpec (Jvm.Cond.code x code maxLocals ret :: tables_1) room_1) (lw_P b xs) (fun _ _ _ _ _ => True) lw_Q := by
  refine MetFree.of_bodyS (code := code) (maxLocals := maxLocals) (ret := ret) (by decide) ?_ ?_
  · intro args s m h hn
    obtain ⟨meth, c, h1, h2, h3, h4, h5, h6, -, -⟩ := Cond.code_spec hn (atoms_spec (ws := Jvm.Cond.code x code maxLocals ret :: tables_1) h _ List.mem_cons_self)
    exact ⟨meth, c, h1, h2, h3, h4, h5, h6⟩
  · intro p e s m args below meth c s₁ B hml0 hP _
    obtain ⟨rfl, hx, hbd, hgv⟩ := hP
    obtain ⟨scr, harrAt, hlist, hof, hsmall⟩ := hx
    obtain ⟨hcb, hkn, -, -⟩ := State.arrayAt?_spec harrAt
    have hown : s.vm.findClass R_law = some m.cls := findClass_of_methodNamed B.named
    have hts0 : ∀ c ∈ (Jvm.Cond.code x code maxLocals ret :: tables_1), c.before #[Value.ref b] s = true := atoms_spec (ws := Jvm.Cond.code x code maxLocals ret :: tables_1) B.pre
    have hts : ∀ w ∈ lw_tbl, w.before #[Value.ref b] s = true := k2_hts_sels lw_privs (fun w hw => hts0 w (List.mem_cons_of_mem _ hw)) lw_privs_ok
    have hml : c.maxLocals = 7 := B.maxLocals_eq (hts0 _ List.mem_cons_self)
    have X₀ : Stand p l e room_1 s m #[Value.ref b] below meth c s₁ [] 0 0 := Stand.of_body B
    have hh0 : s₁.heap = s.heap := by rw [B.state]; rfl
    have hsz : scr.slots.size = xs.length := by rw [← Array.length_toList, hlist, List.length_map]
    have hval : ∀ j : Nat, j < xs.length → scr.slots[j]? = some (.int (xs.getD j 0)) := fun j hj => by
      rw [← Array.getElem?_toList, hlist]
      simp [hj]
    have hbl : b < s.heap.size := (Array.getElem?_eq_some_iff.mp hcb).1
    have hX : va_X b xs.length (fun j => xs.getD j 0) s s.heap := ⟨scr, hcb, hof, hkn, hsz, hval⟩
    have K : W p l e room_1 s m #[Value.ref b] below meth c s₁.heap [] 0 0 (lw_Z below #[Value.ref b] s) (entryFrame m ([Value.ref b] : List Value).toArray 7) := by
      rw [hh0]
      exact whole_start l hl hst hin hbd ⟨B.exec, B.bytes, B.returns, hml, hown, hts, hX, hbl, B.notSynchronized, hgv⟩
    obtain ⟨t, a1, o, b1, b2, b3⟩ := K s₁ rfl X₀
    exact ⟨t, o, a1, b1, b2, b3⟩
theorem lw_pre_spec {args : Array Value} {s : State} (h : (Jvm.Cond.and given_1 narrow_1).before args s = true) (hr : rest_1_c.before args s = true) : ∃ (b : Addr) (xs : List Int32), lw_P b xs args s := by
  have hs := flat_of_before _ h
  have hq := flat_of_before _ hr
  have hc : (Cond.count 1).before args s = true := hs _ (by decide +kernel)
  have harr : (Cond.arrayOf (.arg 0) .int).before args s = true := hs _ (by decide +kernel)
  have hle : (Cond.le (.length (.arg 0)) (.int 3584)).before args s = true := hs _ (by decide +kernel)
  have hlen : (Cond.isInt (.length (.arg 0))).before args s = true := hq _ (by decide +kernel)
  have hall : (Cond.all (.arg 0) (.isInt (.elem (.arg 0) (.index 0)))).before args s = true := hq _ (by decide +kernel)
  obtain ⟨b, xs, hb, hx⟩ := State.ints_of_pre rfl harr hlen hall
  have hsm : xs.length < 2 ^ 31 := hx.choose_spec.2.2.2
  have hev : (Term.length (.arg 0)).eval args s none [] s = some (.int xs.length.toInt32) := hx.length_eval hb
  have hv := Cond.le_ints hev (show (Term.int 3584).eval args s none [] s = some (.int 3584) from rfl)
  have hd : xs.length.toInt32 ≤ 3584 := by
    simpa [Cond.before, Cond.holds, hv] using hle
  have hN : xs.length ≤ 3584 := (Int32.ofNat_le_ofNat hsm (by decide)).mp (show Int32.ofNat xs.length ≤ Int32.ofNat 3584 from hd)
  exact ⟨b, xs, Cond.one_arg hc (show args[0]? = some (.ref b) from hb), hx, hN, h⟩
theorem lw_comes {I : lw_I} (hst : lw_steps I) (hin : st_init I) (l : Launch) (hl : l.stackTraces = false) : Comes l x (Jvm.Cond.code x code maxLocals ret :: tables_1) room_1 (fun tb e args s => Calls_1 tb e args s ∧ rest_1 tb e args s ∧ Pre_1 tb e args s)
    (fun _ _ args s o t => lw_Q args s o t) := by
  intro p e ha hc hk s m args below hf hfit hheap happ hpre
  obtain ⟨b, xs, hP⟩ := lw_pre_spec hpre.2.2 hpre.2.1
  obtain ⟨k, o, h1, h2, h3, hQ⟩ := lw_walk hst hin l hl b xs p e ha hc hk s m args below hf ((Spec.applies_iff_loose hf).mp happ).1 hP trivial
  exact ⟨k, o, h1, h2, h3, hQ⟩
theorem lw_frame {s t : State} {o : Outcome} {args : Array Value} (h : Framed s o t [] 614791 7251732) :
    Framed s o t (fieldLocs frame_1_writes args s ++ arrayLocs frame_1_arrays args s ++ staticLocs frame_1_statics s) 614791 7251732 := h
theorem lw_limb {I : lw_I} (hst : lw_steps I) (hin : st_init I) (L : Cond) (hL : ∀ (args : Array Value) (s t : State), L.after args s (.returned (some (.int 1))) t = true) :
    ArmFor flags0 classFile x code maxLocals ret World_1 tables_1 room_1 Calls_1 rest_1 Pre_1
      (fun tb e a s o t => postC L tb e a s o t ∧ Framed s o t (fieldLocs frame_1_writes a s ++ arrayLocs frame_1_arrays a s ++ staticLocs frame_1_statics s) 614791 7251732) := by
  intro l hfl _ _ p e ha hc hk s m args below hf hfit hheap happ hpre
  obtain ⟨k, o, h1, h2, h3, rfl, hF⟩ := lw_comes hst hin l (by unfold Launch.stackTraces; rw [hfl]; decide) p e ha hc hk s m args below hf hfit hheap happ hpre
  exact ⟨k, _, h1, h2, h3, hL args s _, lw_frame hF⟩
theorem lw_all {I : lw_I} (hst : lw_steps I) (hin : st_init I) : Claimed_1_1 ∧ Claimed_1_2 := ⟨lw_limb hst hin limb_1_1 (fun args s t => by simp [limb_1_1, Cond.after, Cond.holds, Cond.value]), lw_limb hst hin limb_1_2 (fun args s t => Cond.after_iff.mpr (by
  first | (rw [show limb_1_2 = Cond.eq .result (.int 1) from rfl, Cond.eq_ints (x := 1) (y := 1) rfl rfl]; simp; done) | (simp [limb_1_2, Cond.value, Term.eval]; done)))⟩

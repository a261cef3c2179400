/-! the law's helpers: a call that throws is caught -/
def xx_IA : String := "java/lang/IllegalArgumentException"
def xx_IS : String := "java/lang/IllegalStateException"
def xx_IB : String := "java/lang/IndexOutOfBoundsException"
/-- exceptions that are none of the other's -/
def xx_no (X Y : String) : Prop := (X = xx_IS ∧ Y = xx_IA) ∨ (X = xx_IB ∧ Y = xx_IS)
def xx_N (U : State) : Prop := va_Nc xx_IS xx_IA U ∧ va_Nc xx_IB xx_IS U
theorem xx_N_moved {u U : State} (hvm : u.vm.Alike U.vm) (h : xx_N u) : xx_N U := ⟨h.1.moved hvm, h.2.moved hvm⟩
theorem xx_N_at {X Y : String} {U : State} (h : xx_N U) (hn : xx_no X Y) : va_Nc X Y U := by
  rcases hn with ⟨rfl, rfl⟩ | ⟨rfl, rfl⟩
  · exact h.1
  · exact h.2
def zz_PcL (D : va_G) (DA : Nat → ClassId) (h : zz_H) (sz : Nat) (as : List zz_V) : Array Value → State → Prop := va_Pc (as.map zz_v) (fun U => ((U.heap.size = sz ∧ zz_W D DA U h U.heap ∧ zz_K D DA U ∧ zz_T h as) ∧ xx_G (zz_A h sz) U U.heap) ∧ xx_N U)
theorem zz_blindL {D : va_G} {DA : Nat → ClassId} {h : zz_H} {sz : Nat} {as : List zz_V} : FrameBlind (zz_PcL D DA h sz as) := by
  intro a U g mk hq
  obtain ⟨q0, q1, q2⟩ := hq
  have h1 := zz_blindX (D := D) (DA := DA) (h := h) (sz := sz) (as := as) a U g mk ⟨q0, q1⟩
  exact ⟨h1.1, h1.2, xx_N_moved (u := U) (U := U.calling g mk a) (Vm.Alike.refl U.vm) q2⟩
def zz_MetL (l : Launch) (y : MethodName) (ws : List Cond) (rm : Room) (T : zz_Tr) : Prop :=
  ∀ (D : va_G) (DA : Nat → ClassId) (h : zz_H) (sz : Nat) (as : List zz_V) (post : Option zz_V → zz_H → Prop), T as h post →
    Met l y ws rm (zz_PcL D DA h sz as) (zz_out D DA (zz_A h sz) h post) rm.cells rm.slots (zz_A h sz)
def xx_tab (c : Code) (hh : List (Nat × Nat × Nat × Nat)) : Prop := c.exceptionTable.toList.map (fun x => (x.startPc, x.endPc, x.handlerPc, x.catchType)) = hh
/-- what a helper's walk knows besides -/
def zz_CL (l : Launch) (s : State) (h : zz_H) (c : Code) (hh : List (Nat × Nat × Nat × Nat)) : Prop := l.stackTraces = false ∧ xx_G (zz_A h s.heap.size) s s.heap ∧ xx_N s ∧ xx_tab c hh
theorem zz_ofL {l : Launch} {y : MethodName} {rm : Room} {T : zz_Tr} {cc : ByteArray} {maxL : Nat} {ret : Option FieldType} {hh : List (Nat × Nat × Nat × Nat)} (hl : l.stackTraces = false) (hy : plainName y.cls = true) (hfit : ∀ as h post, T as h post → (∀ v ∈ as, zz_cat v = 1) ∧ as.length ≤ maxL)
    (body : ∀ (D : va_G) (DA : Nat → ClassId) (h : zz_H) (as : List zz_V) (post : Option zz_V → zz_H → Prop), T as h post →
      ∀ (p : Program) (e : Env) (s : State) (m : MethodId) (args : Array Value) (below : List Frame) (meth : Method) (c : Code) (Q : State → Prop), zz_C p s m args c cc maxL y.cls D DA → zz_CL l s h c hh → meth.sig.returnType = ret → meth.locks = false → zz_End Q below args s D DA h post rm.cells rm.slots →
        zz_Z p l e rm s m args below meth c Q D DA (zz_A h s.heap.size) h maxL 0 (as.map some ++ List.replicate (maxL - as.length) none) [] h 0 0) :
    zz_MetL l y (Cond.codeWith y cc maxL ret hh :: zz_all) rm T := by
  intro D DA h sz as post hT
  obtain ⟨hf1, hf2⟩ := hfit as h post hT
  refine va_MetW (cc := cc) (maxL := maxL) (ret := ret) (hh := hh) hy rfl ?_
  intro p e s m args below meth c s₁ B hml hv
  obtain ⟨rfl, ⟨⟨hsz, hW, hK, hTs⟩, hG⟩, hN⟩ := hv
  subst hsz
  have hts := atoms_spec (ws := Cond.codeWith y cc maxL ret hh :: zz_all) B.pre
  have hC : zz_C p s m (as.map zz_v).toArray c cc maxL y.cls D DA := ⟨⟨B.exec, B.bytes, hml, findClass_of_methodNamed B.named, fun w hw => hts w (List.mem_cons_of_mem _ hw)⟩, hK⟩
  have htb : xx_tab c hh := by
    obtain ⟨m9, meth', c', hn9, hm', hc', -, -, he', -⟩ := Cond.codeWith_spec (hts _ List.mem_cons_self)
    cases B.named.symm.trans hn9
    cases B.method.symm.trans hm'
    have hh1 : s₁.vm.method? m = some meth := by rw [B.state]; exact B.method
    have h2 := B.here.code
    rw [State.code?_eq, hh1] at h2
    have h3 : meth.code = some c := h2
    cases h3.symm.trans hc'
    exact he'
  have hZ := body D DA h as post hT p e s m _ below meth c _ hC ⟨hl, hG, hN, htb⟩ B.returns B.notSynchronized (fun t ht => ht)
  rw [lg_entry_eq]
  exact hZ s.heap [] _ hW (zz_S0 hW) (zz_le_rf h) (zz_TL0 hTs) (fun _ hz => by cases hz) (zz_entry hf1 hf2)
/-- where a class of exceptions is caught: in the table's first row, or in the second -/
def xx_Cat (own : String) (hh : List (Nat × Nat × Nat × Nat)) (pc : Nat) (X : String) (P : Nat → Prop) : Prop :=
  (∃ a b k t r, hh = (a, b, k, t) :: r ∧ a ≤ pc ∧ pc < b ∧ t ≠ 0 ∧ Cond.classLink own t X ∈ zz_all ∧ P k) ∨
  (∃ a0 b0 k0 t0 Y a b k t r, hh = (a0, b0, k0, t0) :: (a, b, k, t) :: r ∧ t0 ≠ 0 ∧ Cond.classLink own t0 Y ∈ zz_all ∧ xx_no X Y ∧ a ≤ pc ∧ pc < b ∧ t ≠ 0 ∧ Cond.classLink own t X ∈ zz_all ∧ P k)
def zz_st (cc : ByteArray) (nL k q : Nat) : Prop := (∃ i, i < nL ∧ decode cc k = .ok (.astore i, 2) ∧ k + 2 = q) ∨ (∃ f : Fin 4, (f : Nat) < nL ∧ decode cc k = .ok (.astore_n f, 1) ∧ k + 1 = q)
section ZL
variable {p : Program} {l : Launch} {e : Env} {R : Room} {s : State} {m : MethodId} {args : Array Value} {below : List Frame} {meth : Method} {c : Code} {Q : State → Prop}
variable {D : va_G} {DA : Nat → ClassId} {A : Nat → Prop} {h0 h : zz_H} {nL kc ns pc q mc ms : Nat} {cc : ByteArray} {own : String} {L : List (Option zz_V)} {S : List zz_V}
theorem xx_row {a b k t : Nat} {r : List (Nat × Nat × Nat × Nat)} {xs : List ExceptionTableEntry} (h : xs.map (fun x => (x.startPc, x.endPc, x.handlerPc, x.catchType)) = (a, b, k, t) :: r) : ∃ x ys, xs = x :: ys ∧ x.startPc = a ∧ x.endPc = b ∧ x.handlerPc = k ∧ x.catchType = t ∧ ys.map (fun x => (x.startPc, x.endPc, x.handlerPc, x.catchType)) = r := by
  cases xs with
  | nil => cases h
  | cons x ys =>
    have h1 := (List.cons.inj h).1
    have h2 := (List.cons.inj h).2
    simp only [Prod.mk.injEq] at h1
    exact ⟨x, ys, rfl, h1.1, h1.2.1, h1.2.2.1, h1.2.2.2, h2⟩
theorem xx_stored {H : Heap} {locs : List Loc} {ls : Array Slot} {v k : Nat} (C : zz_C p s m args c cc nL own D DA) (hst : zz_st cc nL k q) (hW : zz_W D DA s h H) (hS : zz_S A s.heap h H locs) (hle : zz_le h0 h) (hsz : zz_Lh ls nL L)
    (kk : zz_Z p l e R s m args below meth c Q D DA A h0 nL q [] [] h kc ns) : W p l e R s m args below meth c H locs kc ns Q (F0 m k ls [.ref v]) := by
  have h9 : ∀ ls' lv, lv_has ls' nL lv → W p l e R s m args below meth c H locs kc ns Q (F0 m q ls' []) := fun ls' lv hl => kk H locs ls' hW hS hle (fun i v hv => by simp at hv) (fun _ hz => by cases hz) ⟨hl.1, hl.2.1, fun i v hv => by simp at hv⟩
  rcases hst with ⟨i, hi, hd, rfl⟩ | ⟨f, hi, hd, rfl⟩
  · exact lv_astore C.1.1 C.1.2.1 hd (zz_Lh_has hsz) hi rfl (fun ls' hl => h9 ls' _ hl)
  · exact lv_astore_n C.1.1 C.1.2.1 hd rfl (zz_Lh_has hsz) hi rfl (fun ls' hl => h9 ls' _ hl)
theorem zz_callVC (C : zz_C p s m args c cc nL own D DA) {hh : List (Nat × Nat × Nat × Nat)} (hcl : zz_CL l s h0 c hh) {idx ci n b maxL : Nat} {y : MethodName} {bytes : ByteArray} {ret : Option FieldType} {rm : Room} {T : zz_TX} {o : Option Nat} {st As : List zz_V} (hM : zz_MetX l y (Cond.code y bytes maxL ret :: zz_all) rm T) (hw : zz_CV own idx ci y bytes maxL ret n) (hd : decode cc pc = .ok (.invokevirtual idx, 3)) (hst : zz_popA n [] st = some (As, zz_r ci o, S)) (hnA : As.length = n) (ho : o = some b)
    (hR : rm.frames + 1 ≤ R.frames ∧ 8 + (maxL + 11) + rm.locals ≤ R.locals) (hf : kc + rm.cells ≤ R.cells ∧ ns + rm.slots ≤ R.slots) (h8 : (S.map zz_cat).sum ≤ 8)
    (hT : T (zz_r ci (some b) :: As) h (fun X h' => xx_Cat own hh pc X (fun k => ∃ q, zz_st cc nL k q ∧ zz_Z p l e R s m args below meth c Q D DA (zz_A h0 s.heap.size) h0 nL q [] [] h' (kc + rm.cells) (ns + rm.slots)))) : zz_Z p l e R s m args below meth c Q D DA (zz_A h0 s.heap.size) h0 nL pc L st h kc ns := by
  subst ho
  intro H locs ls hW hS hle hTL hTS hL T1 hT1 Y
  obtain ⟨v, X, h', T', Lc, hp, X', hl9, w1, w2, ⟨ce, hce, hcX, hcv⟩, hsteps⟩ := xx_runV C hcl.2.1 hM hw hd hst hnA hR hf h8 hT hW hS hTS hL.1 hT1 Y
  have hown := C.1.2.2.2.1
  have hts := C.1.2.2.2.2
  have hstat : ce.vm.isStatics = false := by rw [hcv]; rfl
  have htb := hcl.2.2.2
  have fin : ∀ k (pre : List ExceptionTableEntry) (x : ExceptionTableEntry) (rest : List ExceptionTableEntry), c.exceptionTable.toList = pre ++ x :: rest → (∀ y ∈ pre, RowPassed e.platform s m.cls pc ce.cls y) → covers x pc = true → x.catchType ≠ 0 → Cond.classLink own x.catchType X ∈ zz_all → x.handlerPc = k → (∃ q, zz_st cc nL k q ∧ zz_Z p l e R s m args below meth c Q D DA (zz_A h0 s.heap.size) h0 nL q [] [] h' (kc + rm.cells) (ns + rm.slots)) → ∃ t, Steps p.tables e below (T1.setTop (F0 m pc ls (st.map zz_v))) t ∧ Q t := by
    intro k pre x rest e1 e2 e3 e4 e5 e6 ⟨q, hq, hz⟩
    obtain ⟨hend, hk0⟩ := X'.catches_of_link hown e4 (hts _ e5) hcX (Vm.assignable_self s.vm ce.cls)
    obtain ⟨vm', XV, hgo⟩ := X'.thenCaughtThrough v (g := F0 m pc ls (S.map zz_v)) rfl hsteps hce hstat hk0 pre x rest e1 e2 e3 hend
    obtain ⟨t, a1, b1⟩ := xx_stored (ls := ls) (v := v) (k := k) C hq w1 w2 (zz_le_tr hle hl9) hL hz (T'.setVm vm') rfl XV
    refine ⟨t, hgo.trans ?_, b1⟩
    rw [e6]
    exact a1
  rcases hp with ⟨a, b9, k, t, r, g1, g2, g3, g4, g5, g6⟩ | ⟨a0, b0, k0, t0, Y9, a, b9, k, t, r, g1, f1, f2, f3, g2, g3, g4, g5, g6⟩
  · obtain ⟨x, ys, i1, i2, i3, i4, i5, -⟩ := xx_row (htb.trans g1)
    exact fin k [] x ys i1 (fun _ hz => by cases hz) (by simp [covers, i2, i3, g2, g3]) (by rw [i5]; exact g4) (by rw [i5]; exact g5) i4 g6
  · obtain ⟨x0, zs, j1, j2, j3, j4, j5, j6⟩ := xx_row (htb.trans g1)
    obtain ⟨x, ys, i1, i2, i3, i4, i5, -⟩ := xx_row j6
    refine fin k [x0] x ys (by rw [j1, i1]; rfl) (fun y9 hy9 => ?_) (by simp [covers, i2, i3, g2, g3]) (by rw [i5]; exact g4) (by rw [i5]; exact g5) i4 g6
    have ey : y9 = x0 := by simpa using hy9
    subst ey
    have hpl : e.platform.magicAccessors = ({} : Platform).magicAccessors := by rw [X'.admits.platform]
    obtain ⟨c9, hc9, hcl9⟩ := Cond.classLink_spec hown (hts _ f2) e.platform hpl
    obtain ⟨d1, d2, n1, n2, n3⟩ := xx_N_at hcl.2.2.1 f3
    cases hcX.symm.trans n1
    cases hc9.symm.trans n2
    exact Or.inr ⟨by rw [j5]; exact f1, _, by rw [j5]; exact hcl9, n3⟩
/-- the words of a call of a helper -/
def zz_CW (own : String) (idx : Nat) (y : MethodName) (bytes : ByteArray) (maxL : Nat) (ret : Option FieldType) (hh : List (Nat × Nat × Nat × Nat)) (n : Nat) : Prop :=
  Cond.methodLink own idx y ∈ zz_all ∧ Cond.static y ∈ zz_all ∧ Cond.initialized y.cls ∈ zz_all ∧ Cond.codeWith y bytes maxL ret hh ∈ zz_all ∧ y.cls ≠ "java/lang/invoke/MethodHandle" ∧ y.cls ≠ "java/lang/invoke/VarHandle" ∧ (parseMethodDescriptor y.desc).map (fun d => d.parameters.length) = some n
theorem zz_callW (C : zz_C p s m args c cc nL own D DA) (hG : xx_G A s s.heap) (hN : xx_N s) {hh : List (Nat × Nat × Nat × Nat)} {idx n maxL : Nat} {y : MethodName} {bytes : ByteArray} {ret : Option FieldType} {rm : Room} {T : zz_Tr} {st As : List zz_V} (hM : zz_MetL l y (Cond.codeWith y bytes maxL ret hh :: zz_all) rm T) (hw : zz_CW own idx y bytes maxL ret hh n) (hd : decode cc pc = .ok (.invokestatic idx, 3)) (hq : pc + 3 = q) (hst : zz_popS n [] st = some (As, S)) (hnA : As.length = n)
    (hR : rm.frames + 1 ≤ R.frames ∧ 8 + (maxL + 11) + rm.locals ≤ R.locals) (hf : kc + rm.cells ≤ R.cells ∧ ns + rm.slots ≤ R.slots) (h8 : (S.map zz_cat).sum ≤ 8)
    (hT : T As h (fun r h' => (zz_Z p l e R s m args below meth c Q D DA A h0 nL q L (r.toList ++ S) h' (kc + rm.cells) (ns + rm.slots)))) : (zz_Z p l e R s m args below meth c Q D DA A h0 nL pc L st h kc ns) := by
  subst hq
  obtain ⟨ys, hys, hAs⟩ := zz_popS_of n [] st As S hst
  rw [List.append_nil] at hAs
  obtain ⟨w1, w2, w3, w4, w6, w7, w8⟩ := hw
  intro H locs ls hW hS hle hTL hTS hL
  have hTs : zz_T h As := by
    intro v hv
    apply hTS v
    rw [hys]
    rw [hAs] at hv
    simp [List.mem_reverse.mp hv]
  have hTS' : zz_T h S := fun v hv => hTS v (by rw [hys]; simp [hv])
  have ht := C.1.2.2.2.2
  have hws : ∀ w ∈ Cond.codeWith y bytes maxL ret hh :: zz_all, ∀ (a' : Array Value) (U : State), s.WarmedH U.vm → w.before a' U = true := fun w hz a' U hWm => by
    rcases List.mem_cons.mp hz with rfl | hz
    · exact zz_payW (zz_good _ w4) (ht _ w4) hWm
    · exact zz_payW (zz_good _ hz) (ht _ hz) hWm
  have hK : Back l R p e below s args y 3 8 (PreOf R rm.cells rm.slots (zz_PcL D DA h H.size As)) (PostOf (zz_out D DA (zz_A h H.size) h _) rm.cells rm.slots (zz_A h H.size)) := va_backW (hh := hh) (bytes := bytes) (maxL := maxL) (ret := ret) (hM D DA h H.size As _ hT) zz_blindL rfl rfl hR.1 hR.2 hws List.mem_cons_self (fun a' U hWm => zz_payW (zz_good _ w3) (ht _ w3) hWm)
  have hrun : va_Run p l e R s m args below meth c H locs kc ns rm.cells rm.slots (F0 m pc ls (st.map zz_v)) (S.map zz_v) (zz_out D DA (zz_A h H.size) h (fun r h' => (zz_Z p l e R s m args below meth c Q D DA A h0 nL (pc + 3) L (r.toList ++ S) h' (kc + rm.cells) (ns + rm.slots))) (As.map zz_v).toArray) (zz_A h H.size) := by
    intro T1 hT1 X
    obtain ⟨mk, methM, cM, hnamed, hmethM, -, -, -, -, -, -, hsigM⟩ := Cond.codeWith_spec (ht _ w4)
    have hstatic : methM.isStatic = true := Cond.static_spec hnamed hmethM (ht _ w2)
    obtain ⟨kP, hkP, -⟩ := className_of_methodNamed hnamed
    have hinitP : kP.init = .initialized := Cond.initialized_spec (findClass_of_methodNamed hnamed) hkP (ht _ w3)
    obtain ⟨vm₁, X₁, hstep₁⟩ := X.invokestatic C.1.1 C.1.2.2.2.1 (ht _ w1) hnamed hmethM hstatic hkP hinitP ⟨w6, w7⟩ (g := F0 m pc ls (st.map zz_v)) rfl (argsL := As.map zz_v) (rest := S.map zz_v) (by rw [List.length_map, hnA]; exact zz_sig w8 _ hsigM) (by show st.map zz_v = _; rw [hys, hAs]; simp) (by rw [C.1.2.1]; exact hd)
    have hpre : zz_PcL D DA h H.size As (As.map zz_v).toArray (T1.setVm vm₁) := ⟨rfl, ⟨(zz_start C hW hTs (T1.setVm vm₁) hT1 X₁.warmed).2, by
      show xx_G _ _ T1.heap
      rw [hT1]
      exact xx_G_go X₁.warmed hG (fun a h1 h2 => hS.1.2.1 a h1 h2) (zz_sub hS)⟩, xx_N_moved X₁.warmed.alike hN⟩
    obtain ⟨v, ⟨U', l2, c2, s2⟩, X', ⟨g', mk', t, Lc, e1, e2, hq, h1, hLc, h2, h3⟩, hsteps⟩ := hK m meth c ⟨T1.setVm vm₁, locs, kc, ns⟩ { F0 m pc ls (st.map zz_v) with stack := S.map zz_v } (.invokestatic idx) mk (As.map zz_v).toArray X₁ rfl (hL.1.trans C.1.2.2.1.symm) (by rw [C.1.2.1]; exact hd) (lv_room (zz_weigh h8)) (X₁.named hnamed) ⟨hf.1, hf.2, hpre⟩
    dsimp only [Pt.U, Pt.locs, Pt.cells, Pt.slots] at X' e1 e2 h1 h2 h3 hsteps
    subst h1; subst h2; subst h3
    exact ⟨v, (T1.setVm vm₁).calling g' mk' (As.map zz_v).toArray, t, U', Lc, hT1, X', hLc, e1, e2, hq, fun target h9 => hstep₁ _ fun acts => by rw [doInvoke_state]; exact hsteps.trans h9⟩
  exact zz_call0 hS hle hTL hTS' hL hrun (fun r h' hq => hq)
end ZL
/-! throws: contracts -/
def zz_outX (D : va_G) (DA : Nat → ClassId) (A : Nat → Prop) (h0 : zz_H) (post : String → zz_H → Prop) : Array Value → State → Outcome → State → Prop := fun _ st o t => ∃ (x : Nat) (X : String) (h' : zz_H), post X h' ∧ o = .threw x ∧ (∃ ce : Cell, t.heap[x]? = some ce ∧ st.vm.findClass X = some ce.cls ∧ ce.vm = .none) ∧ zz_E D DA A h0 h' st t
def zz_PcX (D : va_G) (DA : Nat → ClassId) (h : zz_H) (sz : Nat) (as : List zz_V) : Array Value → State → Prop := va_Pc (as.map zz_v) (fun U => (U.heap.size = sz ∧ zz_W D DA U h U.heap ∧ zz_K D DA U ∧ zz_T h as) ∧ xx_G (zz_A h sz) U U.heap)
abbrev zz_TX : Type := List zz_V → zz_H → (String → zz_H → Prop) → Prop
def MQX (below : List Frame) (Qc : Array Value → State → Outcome → State → Prop) (a : Array Value) (s : State) (mc ms : Nat) (free : Addr → Prop) : State → Prop := fun t =>
  ∃ o, t.status = .running ∧ Ended t below o ∧ Qc a s o t ∧ ∃ L, FrameEndT s o t L mc ms ∧ ∀ q ∈ L, free q.base
def zz_MetX (l : Launch) (y : MethodName) (ws : List Cond) (rm : Room) (T : zz_TX) : Prop :=
  ∀ (D : va_G) (DA : Nat → ClassId) (h : zz_H) (sz : Nat) (as : List zz_V) (post : String → zz_H → Prop), T as h post →
    MetFree l y (headSpec ws rm) (zz_PcX D DA h sz as) (fun _ _ _ _ _ => True) (fun a st o t => zz_outX D DA (zz_A h sz) h post a st o t ∧ ∃ L, FrameEndT st o t L rm.cells rm.slots ∧ ∀ q ∈ L, zz_A h sz q.base)
def zz_EndX (Q : State → Prop) (below : List Frame) (args : Array Value) (s : State) (D : va_G) (DA : Nat → ClassId) (h : zz_H) (post : String → zz_H → Prop) (mc ms : Nat) : Prop :=
  ∀ t, MQX below (zz_outX D DA (zz_A h s.heap.size) h post) args s mc ms (zz_A h s.heap.size) t → Q t
/-- what a throwing walk knows besides -/
def zz_CX (l : Launch) (s : State) (h : zz_H) (meth : Method) (c : Code) : Prop := l.stackTraces = false ∧ xx_G (zz_A h s.heap.size) s s.heap ∧ c.exceptionTable.isEmpty = true ∧ meth.locks = false
theorem zz_ofX {l : Launch} {y : MethodName} {rm : Room} {T : zz_TX} {cc : ByteArray} {maxL : Nat} {ret : Option FieldType} (hl : l.stackTraces = false) (hy : plainName y.cls = true) (hfit : ∀ as h post, T as h post → (∀ v ∈ as, zz_cat v = 1) ∧ as.length ≤ maxL)
    (body : ∀ (D : va_G) (DA : Nat → ClassId) (h : zz_H) (as : List zz_V) (post : String → zz_H → Prop), T as h post →
      ∀ (p : Program) (e : Env) (s : State) (m : MethodId) (args : Array Value) (below : List Frame) (meth : Method) (c : Code) (Q : State → Prop), zz_C p s m args c cc maxL y.cls D DA → zz_CX l s h meth c → meth.name = y.name → zz_EndX Q below args s D DA h post rm.cells rm.slots →
        zz_Z p l e rm s m args below meth c Q D DA (zz_A h s.heap.size) h maxL 0 (as.map some ++ List.replicate (maxL - as.length) none) [] h 0 0) :
    zz_MetX l y (Cond.code y cc maxL ret :: zz_all) rm T := by
  intro D DA h sz as post hT
  obtain ⟨hf1, hf2⟩ := hfit as h post hT
  refine MetFree.of_bodyS (code := cc) (maxLocals := maxL) (ret := ret) hy ?_ ?_
  · intro args s m h hn
    obtain ⟨meth, c, h1, h2, h3, h4, h5, h6, -, -⟩ := Cond.code_spec hn (atoms_spec (ws := Cond.code y cc maxL ret :: zz_all) h _ List.mem_cons_self)
    exact ⟨meth, c, h1, h2, h3, h4, h5, h6⟩
  · intro p e s m args below meth c s₁ B hml hv _
    obtain ⟨rfl, ⟨hsz, hW, hK, hTs⟩, hG⟩ := hv
    subst hsz
    have hts := atoms_spec (ws := Cond.code y cc maxL ret :: zz_all) B.pre
    have hC : zz_C p s m (as.map zz_v).toArray c cc maxL y.cls D DA := ⟨⟨B.exec, B.bytes, hml, findClass_of_methodNamed B.named, fun w hw => hts w (List.mem_cons_of_mem _ hw)⟩, hK⟩
    have hZ := body D DA h as post hT p e s m _ below meth c _ hC ⟨hl, hG, B.noHandlers (hts _ List.mem_cons_self), B.notSynchronized⟩ (name_of_methodNamed B.named B.method).1 (fun t ht => ht)
    have hh0 : s₁.heap = s.heap := by rw [B.state]; rfl
    have hz := hZ s.heap [] _ hW (zz_S0 hW) (zz_le_rf h) (zz_TL0 hTs) (fun _ hz => by cases hz) (zz_entry hf1 hf2) s₁ hh0 (Stand.of_body B)
    obtain ⟨t, a1, o, b1, b2, b3⟩ := hz
    refine ⟨t, o, ?_, b1, b2, b3⟩
    rw [lg_entry_eq]
    exact a1
theorem xx_W_ext {D : va_G} {DA : Nat → ClassId} {U : State} {h : zz_H} {H H1 : Heap} (hW : zz_W D DA U h H) (hq : ∀ a : Nat, a < H.size → H1[a]? = H[a]?) : zz_W D DA U h H1 := by
  refine ⟨fun a e he => ?_, fun a n ht => ?_, hW.2.2⟩
  · have hv := hW.1 a e he
    exact va_at.kept hv (hq a (va_at.lt hv))
  · obtain ⟨scr, h1, h2⟩ := hW.2.1 a n ht
    exact ⟨scr, by rw [hq a (Array.getElem?_eq_some_iff.mp h1).1]; exact h1, h2⟩
/-! throws: what is known of Throwable's statics, of the messages -/
def xx_Z (n d : String) (A : Nat → Prop) (U : State) (H : Heap) : Prop := ∃ (c : ClassId) (k : Class) (i : Nat) (f : Field) (a : Nat) (cell : Cell) (u : RefV), U.vm.findClass Bundle.tN = some c ∧ U.fieldFound? Bundle.tN n d = some (c, k, i, f) ∧ f.isStatic = true ∧ k.statics = some a ∧ H[a]? = some cell ∧ cell.vm.isStatics = true ∧ cell.cls = c ∧ f.slot < cell.slots.size ∧ k.staticTypes[f.slot]? = some f.type ∧ cell.slots[f.slot]? = some u.v ∧ ¬ A a
theorem xx_Z_moved {n d : String} {A : Nat → Prop} {u U : State} {H : Heap} (hvm : u.vm.Alike U.vm) (h : xx_Z n d A u H) : xx_Z n d A U H := by
  obtain ⟨c, k, i, f, a, cell, v, h1, h2, h3, h4, h5, h6, h7, h8, h9, h10⟩ := h
  obtain ⟨k', hi', he⟩ := State.fieldFound?_setVm hvm h2
  exact ⟨c, k', i, f, a, cell, v, by rw [hvm.findClass]; exact h1, hi', h3, by rw [he]; exact h4, h5, h6, h7, h8, by rw [he]; exact h9, h10⟩
theorem xx_Z_kept {n d : String} {A B : Nat → Prop} {U : State} {H H1 : Heap} (h : xx_Z n d A U H) (hq : ∀ a : Nat, a < H.size → ¬ A a → H1[a]? = H[a]?) (hAB : ∀ q, B q → A q) : xx_Z n d B U H1 := by
  obtain ⟨c, k, i, f, a, cell, v, h1, h2, h3, h4, h5, h6, h7, h8, h9, h10, h11⟩ := h
  exact ⟨c, k, i, f, a, cell, v, h1, h2, h3, h4, by rw [hq a (Array.getElem?_eq_some_iff.mp h5).1 h11]; exact h5, h6, h7, h8, h9, h10, fun z => h11 (hAB a z)⟩
theorem xx_Z_of {args : Array Value} {s : State} {n d : String} {A : Nat → Prop} (hl : (Cond.laysStatic Bundle.tN n d).before args s = true) (hr : (Cond.isRef (.static Bundle.tN n d)).before args s = true) (hA : ∀ a : Nat, a < s.heap.size → ¬ A a) : xx_Z n d A s s.heap := by
  obtain ⟨c, k, i, f, a, cell, hc, hi, hst, ha, hcell, hs, hcls, hlt, hty⟩ := Cond.laysStatic_spec hl
  obtain ⟨u, hu⟩ := Cond.staticRefV hi hst ha hcell hs hr
  exact ⟨c, k, i, f, a, cell, u, hc, hi, hst, ha, hcell, hs, hcls, hlt, hty, hu, hA a (Array.getElem?_eq_some_iff.mp hcell).1⟩
theorem xx_Z_lay {args : Array Value} {s : State} {n d : String} {A : Nat → Prop} (h : xx_Z n d A s s.heap) : (Cond.laysStatic Bundle.tN n d).before args s = true := by
  obtain ⟨c, k, i, f, a, cell, u, h1, h2, h3, h4, h5, h6, h7, h8, h9, -, -⟩ := h
  exact Cond.laysStatic_of h1 h2 h3 h4 h5 h6 h7 h8 h9
theorem xx_Z_ref {args : Array Value} {s : State} {n d : String} {A : Nat → Prop} (h : xx_Z n d A s s.heap) : (Cond.isRef (.static Bundle.tN n d)).before args s = true := by
  obtain ⟨c, k, i, f, a, cell, u, h1, h2, h3, h4, h5, h6, h7, h8, h9, h10, -⟩ := h
  have he : (Term.static Bundle.tN n d).eval args s none [] s = some u.v := by
    simp [Term.eval, State.fieldNamed?, h2, h3, h4, h5, h6, h10]
  have hu := u.ok
  simp only [Cond.before, Cond.holds, Cond.value, he]
  revert hu
  cases u.v <;> simp [Value.isRef]
def xx_strs : List (Nat × String) := [(46, "there is no such type"), (55, "the parent is not declared"), (61, "the level is too low"), (63, "the length is out of bounds"), (65, "the sequence is out of bounds"), (69, "the type is declared"), (266, "a segment was inserted"), (264, "the type is not declared"), (81, "a type is not its own twin"), (89, "the types are not alike"), (95, "the types have no sequence"), (101, "a type has a twin"), (106, "it is a root type"), (112, "the type has no such word"), (121, "there is no such operation"), (131, "there is no such word to work with"), (148, "no parent is fixed"), (154, "the position is at no segment"), (173, "the segment has no such word"), (214, "no segment is held"), (242, "there is no second order")]
def xx_R (U : State) : Prop := ∀ q ∈ xx_strs, ∃ a, vk_R "SegmentTrees" q.1 q.2 a U
def xx_G (A : Nat → Prop) (U : State) (H : Heap) : Prop := xx_Z "UNASSIGNED_STACK" Bundle.steD A U H ∧ xx_Z "SUPPRESSED_SENTINEL" Bundle.listD A U H ∧ xx_R U
theorem xx_G_go {A B : Nat → Prop} {s U : State} {H H1 : Heap} (hW : s.WarmedH U.vm) (h : xx_G A s H) (hq : ∀ a : Nat, a < H.size → ¬ A a → H1[a]? = H[a]?) (hAB : ∀ q, B q → A q) : xx_G B U H1 :=
  ⟨xx_Z_moved hW.alike (xx_Z_kept h.1 hq hAB), xx_Z_moved hW.alike (xx_Z_kept h.2.1 hq hAB), fun q hm => let ⟨a, ha⟩ := h.2.2 q hm; ⟨a, ha.warm hW⟩⟩
/-- a walk's place as the start of a walk of its own -/
theorem xx_rebase {p : Program} {l : Launch} {e : Env} {R R' : Room} {s : State} {m : MethodId} {args : Array Value} {below : List Frame} {meth : Method} {c : Code} {T : State} {locs : List Loc} {cells slots : Nat} (X : Stand p l e R s m args below meth c T locs cells slots) (h1 : R'.frames ≤ R.frames) (h2 : R'.locals ≤ R.locals) (h3 : cells + R'.cells ≤ R.cells) (h4 : slots + R'.slots ≤ R.slots) : Stand p l e R' ((T.setVm s.vm).setFrames (.invoking m args :: below)) m args below meth c T [] 0 0 := by
  obtain ⟨g₀, hfr⟩ := X.frames_eq
  obtain ⟨th, hth, -⟩ := State.frames_cons hfr
  have hcur : T.cur < T.threads.size := (Array.getElem?_eq_some_iff.mp hth).1
  have hf : ((T.setVm s.vm).setFrames (.invoking m args :: below)).frames = .invoking m args :: below := State.frames_setFrames _ hcur
  have hli : ((T.setVm s.vm).setFrames (.invoking m args :: below)).localsInUse = s.localsInUse := by
    unfold State.localsInUse
    rw [hf, X.frames]
    rfl
  refine ⟨X.admits, X.cas, X.clock, hf, ?_, X.hears, X.method, X.code, X.here, X.tail, X.warmed, ?_, ?_, ?_⟩
  · have hr := X.room
    simp only [State.hasRoom, Bool.and_eq_true, decide_eq_true_eq] at hr ⊢
    obtain ⟨⟨⟨⟨r1, r2⟩, r3⟩, r4⟩, r5⟩ := hr
    have q1 := X.heapSize
    have q2 := X.used
    have q3 : ((T.setVm s.vm).setFrames (.invoking m args :: below)).heap.size = T.heap.size := rfl
    have q4 : ((T.setVm s.vm).setFrames (.invoking m args :: below)).slotsUsed = T.slotsUsed := rfl
    have q5 : e.platform.stackLimits ((T.setVm s.vm).setFrames (.invoking m args :: below)).me = e.platform.stackLimits s.me := by rw [State.stackLimits_setFrames]; exact X.limits
    have q6 : ((T.setVm s.vm).setFrames (.invoking m args :: below)).me.stackBytes = s.me.stackBytes := by rw [State.stackBytes_setFrames]; exact X.bytes
    have q7 : s.frames.length = ((T.setVm s.vm).setFrames (.invoking m args :: below)).frames.length := by rw [hf, X.frames]
    rw [hli, q3, q4, q5, q6, ← q7]
    refine ⟨⟨⟨⟨by omega, by omega, by omega, by omega, by omega, r2.2.2.2.2⟩, by omega⟩, by omega⟩, X.book⟩
  · rw [State.stackLimits_setFrames]; rfl
  · rw [State.stackBytes_setFrames]; rfl
  · have hth2 : ((T.setVm s.vm).setFrames (.invoking m args :: below)).cur < ((T.setVm s.vm).setFrames (.invoking m args :: below)).threads.size := State.cur_lt_of_frames hf
    obtain ⟨t2, ht2, -⟩ := State.frames_cons hf
    have h := (State.sameButNew.refl ((T.setVm s.vm).setFrames (.invoking m args :: below)) ht2).setFrames T.frames hth2
    rw [State.setFrames_setFrames] at h
    have e9 : (T.setVm s.vm).setFrames T.frames = T.setVm s.vm := State.setFrames_self (s := T.setVm s.vm) hth
    rw [e9] at h
    exact h
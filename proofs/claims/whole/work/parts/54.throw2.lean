/-! throws: the throw itself -/
section ZT
variable {p : Program} {l : Launch} {e : Env} {R : Room} {s : State} {m : MethodId} {args : Array Value} {below : List Frame} {meth : Method} {c : Code} {Q : State → Prop}
variable {D : va_G} {DA : Nat → ClassId} {h0 h : zz_H} {nL kc ns pc q mc ms : Nat} {cc : ByteArray} {own : String} {L : List (Option zz_V)} {S : List zz_V} {post : String → zz_H → Prop}
/-- a new cell and no other change -/
theorem xx_only {s1 s2 : State} {k n : Nat} (h : s1.sameButNew s2 [] k n) : ∀ a : Nat, a < s1.heap.size → s2.heap[a]? = s1.heap[a]? := fun a ha => by
  obtain ⟨c', q1, q2, q3, q4⟩ := h.2.2.2.2.2 a s1.heap[a] (Array.getElem?_eq_getElem ha)
  have e1 : c'.slots = s1.heap[a].slots := Array.ext_getElem? fun i => q4 i (fun hm => by cases hm)
  rw [q1, Array.getElem?_eq_getElem ha, q2, e1]
/-- the end of a walk that threw: what it knew of the heap is still so -/
theorem xx_end {H : Heap} {locs : List Loc} {T U : State} {X : String} {x : Nat} (hx : zz_CX l s h0 meth c) (hW : zz_W D DA s h H) (hS : zz_S (zz_A h0 s.heap.size) s.heap h H locs) (hle : zz_le h0 h) (hT : T.heap = H) (Y : Stand p l e R s m args below meth c T locs kc ns) (hQ : zz_EndX Q below args s D DA h0 post mc ms) (hc : kc + 1 ≤ mc) (hs : ns + 6 ≤ ms) (hp : post X h)
    (hrun : U.status = .running) (hend : Ended U below (.threw x)) (hWm : s.WarmedH U.vm) (hsame : ((T.setVm s.vm).setFrames (.invoking m args :: below)).sameButNew ({ U with vm := s.vm } : State) [] 1 6) (hce : ∃ ce : Cell, U.heap[x]? = some ce ∧ s.vm.findClass X = some ce.cls ∧ ce.vm = .none) : Q U := by
  obtain ⟨g₀, hfr⟩ := Y.frames_eq
  obtain ⟨th, hth, -⟩ := State.frames_cons hfr
  have hcur : T.cur < T.threads.size := (Array.getElem?_eq_some_iff.mp hth).1
  have hold : ∀ a : Nat, a < H.size → U.heap[a]? = H[a]? := fun a ha => by
    have := xx_only hsame a (by show a < T.heap.size; rw [hT]; exact ha)
    rw [← hT]; exact this
  have hsz : H.size ≤ U.heap.size := by rw [← hT]; exact hsame.2.1
  refine hQ U ⟨.threw x, hrun, hend, ⟨x, X, h, hp, rfl, hce, ?_⟩, locs, ⟨⟨x, rfl⟩, hWm, ?_⟩, hS.1.2.2⟩
  · refine ⟨zz_W_moved hWm.alike (xx_W_ext hW hold), hle, ⟨Nat.le_trans hS.1.1 hsz, fun a h1 h2 => ?_⟩, hS.2.2.1⟩
    rw [hold a (Nat.lt_of_lt_of_le h1 hS.1.1)]
    exact hS.1.2.1 a h1 h2
  · have h1 := (Y.same.setFrames (.invoking m args :: below) Y.cur).trans hsame
    rw [List.append_nil] at h1
    exact h1.mono hc hs
/-- new, dup, a message, the constructor, athrow: nobody here catches it -/
theorem zz_throw (C : zz_C p s m args c cc nL "SegmentTrees" D DA) (hx : zz_CX l s h0 meth c) {X tx : String} {i0 i1 ic : Nat} (hat : (Bundle.ownAtoms "SegmentTrees" ic X xx_up).all (fun w => decide (w ∈ xx_tw) || decide (w ∈ xx_sp)) = true) (hfX : Bundle.fit X = true) (hwc : Cond.classLink "SegmentTrees" i0 X ∈ zz_all) (hwi : Cond.instantiable X 6 ∈ zz_all) (hwn : Cond.initialized X ∈ zz_all) (hstr : (i1, tx) ∈ xx_strs)
    (hd0 : decode cc pc = .ok (.new i0, 3)) (hd1 : decode cc (pc + 3) = .ok (.dup, 1)) (hd2 : (decode cc (pc + 4) = .ok (.ldc i1, 2) ∧ q = pc + 6) ∨ (decode cc (pc + 4) = .ok (.ldc_w i1, 3) ∧ q = pc + 7)) (hd3 : decode cc q = .ok (.invokespecial ic, 3)) (hd4 : decode cc (q + 3) = .ok (.athrow, 1))
    (hQ : zz_EndX Q below args s D DA h0 post mc ms) (hc : kc + 1 ≤ mc) (hs : ns + 6 ≤ ms) (hcR : kc + 1 ≤ R.cells) (hsR : ns + 6 ≤ R.slots) (hRf : 5 < R.frames) (hRl : 90 ≤ R.locals) (hp : post X h) : zz_Z p l e R s m args below meth c Q D DA (zz_A h0 s.heap.size) h0 nL pc L [] h kc ns := by
  intro H locs ls hW hS hle hTL hTS hL T hT Y
  have Y' := xx_rebase (R' := { frames := R.frames, cells := 1, slots := 6, locals := R.locals }) Y (Nat.le_refl _) (Nat.le_refl _) hcR hsR
  have ht' : ∀ w ∈ zz_all, w.before args ((T.setVm s.vm).setFrames (.invoking m args :: below)) = true := fun w hw => zz_payW (zz_good w hw) (C.1.2.2.2.2 w hw) (State.WarmedH.refl s)
  have hG' : xx_G (zz_A h0 s.heap.size) ((T.setVm s.vm).setFrames (.invoking m args :: below)) T.heap := xx_G_go (State.WarmedH.refl s) hx.2.1 (fun a h1 h2 => by rw [hT]; exact hS.1.2.1 a h1 h2) (fun _ z => z)
  have htr : e.platform.stackTraces = false := by rw [Example.NoTraceControls.admits_follows Y.admits]; exact hx.1
  have hlk : meth.locks = false := hx.2.2.2
  have hown : ((T.setVm s.vm).setFrames (.invoking m args :: below)).vm.findClass "SegmentTrees" = some m.cls := C.1.2.2.2.1
  obtain ⟨vm1, cX, kX, hfc, hkX, -, -, X1, st1⟩ := Y'.newCold C.1.1 (own := "SegmentTrees") (C := X) (index := i0) (n := 6) hown (ht' _ hwc) (ht' _ hwi) (ht' _ hwn) (g := F0 m pc ls []) rfl (by rw [C.1.2.1]; exact hd0) (Nat.le_refl _) (Nat.le_refl _)
  have hcell : ((T.setVm vm1).pushCell { cls := cX, slots := kX.instanceTypes.map defaultValue, vm := .none }).heap[T.heap.size]? = some (freshCell cX kX) := State.heap_pushCell_size _ _
  obtain ⟨sa, hsa⟩ := hG'.2.2 (i1, tx) hstr
  have hk : W p l e { frames := R.frames, cells := 1, slots := 6, locals := R.locals } ((T.setVm s.vm).setFrames (.invoking m args :: below)) m args below meth c ((T.setVm vm1).pushCell { cls := cX, slots := kX.instanceTypes.map defaultValue, vm := .none }).heap [] (0 + 1) (0 + 6) Q (F0 m (pc + 3 + 1) ls [.ref T.heap.size, .ref T.heap.size]) := by
    intro T9 hT9 X9
    have hc9 : T9.heap[T.heap.size]? = some (freshCell cX kX) := by rw [hT9]; exact hcell
    obtain ⟨U, hsteps, hrun, hend, hWm, hsame, ce, hce, K⟩ := X9.ctorThrowS C.1.1 htr (own := "SegmentTrees") (cls := X) (names := xx_up) (ic := ic) hown hfX (by decide +kernel) (xx_pay hat ht' hG') (fun _ hz => by cases hz) hfc hkX hc9 (Nat.le_refl _) (msg := .ref sa) rfl
      (g := F0 m q ls [.ref sa, .ref T.heap.size, .ref T.heap.size]) rfl (hL.1.trans C.1.2.2.1.symm) rfl rfl (rest := []) rfl (by rw [C.1.2.1]; exact hd3) (by rw [C.1.2.1]; exact hd4) (covers_of_empty hx.2.2.1 _) (by show 2 + 3 < R.frames; exact hRf) (by show 0 + 1 + (13 * 3 + 42) ≤ R.locals; omega)
    refine ⟨U, ?_, xx_end hx hW hS hle hT Y hQ hc hs hp hrun hend hWm hsame ⟨ce, hce, K.cls, K.vm⟩⟩
    rcases hd2 with ⟨hd2, rfl⟩ | ⟨hd2, rfl⟩
    · exact X9.ldcString C.1.1 (own := "SegmentTrees") (text := tx) (index := i1) (a := sa) hown hsa.1 hsa.2 (g := F0 m (pc + 3 + 1) ls [.ref T.heap.size, .ref T.heap.size]) rfl (by rw [C.1.2.1]; exact hd2) _ hsteps
    · exact X9.ldcStringW C.1.1 (own := "SegmentTrees") (text := tx) (index := i1) (a := sa) hown hsa.1 hsa.2 (g := F0 m (pc + 3 + 1) ls [.ref T.heap.size, .ref T.heap.size]) rfl (by rw [C.1.2.1]; exact hd2) _ hsteps
  obtain ⟨t, a1, b1⟩ := lv_dup C.1.1 C.1.2.1 hd1 rfl hk _ rfl X1
  exact ⟨t, st1 t a1, b1⟩
end ZT
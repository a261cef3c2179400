/-! throws: a call that throws -/
theorem zz_blindX {D : va_G} {DA : Nat → ClassId} {h : zz_H} {sz : Nat} {as : List zz_V} : FrameBlind (zz_PcX D DA h sz as) := by
  intro a U g mk hq
  obtain ⟨q0, q1, q2⟩ := hq
  have h1 := zz_blind (D := D) (DA := DA) (h := h) (sz := sz) (as := as) a U g mk ⟨q0, q1⟩
  exact ⟨h1.1, h1.2, xx_G_go (U := U.calling g mk a) (State.WarmedH.refl U) q2 (fun _ _ _ => rfl) (fun _ z => z)⟩
section ZV
variable {p : Program} {l : Launch} {e : Env} {R : Room} {s : State} {m : MethodId} {args : Array Value} {below : List Frame} {meth : Method} {c : Code} {Q : State → Prop}
variable {D : va_G} {DA : Nat → ClassId} {A : Nat → Prop} {h0 h : zz_H} {nL kc ns pc q mc ms : Nat} {cc : ByteArray} {own : String} {L : List (Option zz_V)} {S : List zz_V} {post : String → zz_H → Prop}
def xx_Pre (R : Room) (rm : Room) (D : va_G) (DA : Nat → ClassId) (h : zz_H) (sz : Nat) (as : List zz_V) : Pt → Array Value → Prop := fun P a => P.cells + rm.cells ≤ R.cells ∧ P.slots + rm.slots ≤ R.slots ∧ zz_PcX D DA h sz as a P.U
def xx_Post (rm : Room) (D : va_G) (DA : Nat → ClassId) (h : zz_H) (sz : Nat) (post : String → zz_H → Prop) : Pt → Array Value → Addr → Pt → Prop := fun P a v B => ∃ (g : JFrame) (mk : MethodId) (t : State) (Lc : List Loc), B.U.heap = t.heap ∧ B.U.vm = t.vm ∧ zz_outX D DA (zz_A h sz) h post a (P.U.calling g mk a) (.threw v) t ∧ B.locs = P.locs ++ Lc ∧ (∀ z ∈ Lc, zz_A h sz z.base) ∧ B.cells = P.cells + rm.cells ∧ B.slots = P.slots + rm.slots
theorem xx_back {y : MethodName} {bytes : ByteArray} {maxL sz : Nat} {ret : Option FieldType} {rm : Room} {T : zz_TX} {as : List zz_V} (hM : zz_MetX l y (Cond.code y bytes maxL ret :: zz_all) rm T) (hts : ∀ w ∈ zz_all, w.before args s = true) (hwc : Cond.code y bytes maxL ret ∈ zz_all) (hwi : Cond.initialized y.cls ∈ zz_all) (hR : rm.frames + 1 ≤ R.frames ∧ 8 + (maxL + 11) + rm.locals ≤ R.locals) (hT : T as h post) :
    BackT l R p e below s args y 3 8 (xx_Pre R rm D DA h sz as) (xx_Post rm D DA h sz post) := by
  refine BackT.of_free (S := headSpec (Cond.code y bytes maxL ret :: zz_all) rm) (bytes := bytes) (maxL := maxL) (ret := ret) (E := fun _ _ _ _ Lc k n => k = rm.cells ∧ n = rm.slots ∧ ∀ z ∈ Lc, zz_A h sz z.base) (hM D DA h sz as post hT) hR.1 hR.2 ?_ ?_ (fun _ _ _ _ _ _ _ _ _ => trivial) ?_ ?_
  · intro m meth c P a X hp
    exact ⟨atoms_intro fun w hw => zz_pay hts hwc w hw _ _ X.warmed, zz_pay hts hwc _ List.mem_cons_self _ _ X.warmed, zz_payW (zz_good _ hwi) (hts _ hwi) X.warmed, hp.1, hp.2.1⟩
  · intro m meth c P a g mk X hp
    exact zz_blindX _ _ _ _ hp.2.2
  · intro a first o t ⟨hq, Lc, hF, hL⟩
    exact ⟨Lc, rm.cells, rm.slots, hF, rfl, rfl, hL⟩
  · intro m meth c P a g mk v t Lc k n X hp hq hF ⟨e1, e2, hL⟩
    subst e1; subst e2
    exact ⟨g, mk, t, Lc, rfl, rfl, hq.1, rfl, hL, rfl, rfl⟩
/-- a virtual call that throws, up to the throwing frame -/
theorem xx_runV (C : zz_C p s m args c cc nL own D DA) (hG : xx_G A s s.heap) {idx ci n b maxL : Nat} {y : MethodName} {bytes : ByteArray} {ret : Option FieldType} {rm : Room} {T : zz_TX} {st As : List zz_V} (hM : zz_MetX l y (Cond.code y bytes maxL ret :: zz_all) rm T) (hw : zz_CV own idx ci y bytes maxL ret n) (hd : decode cc pc = .ok (.invokevirtual idx, 3)) (hst : zz_popA n [] st = some (As, zz_r ci (some b), S)) (hnA : As.length = n)
    (hR : rm.frames + 1 ≤ R.frames ∧ 8 + (maxL + 11) + rm.locals ≤ R.locals) (hf : kc + rm.cells ≤ R.cells ∧ ns + rm.slots ≤ R.slots) (h8 : (S.map zz_cat).sum ≤ 8) (hT : T (zz_r ci (some b) :: As) h post)
    {H : Heap} {locs : List Loc} {ls : Array Slot} {T1 : State} (hW : zz_W D DA s h H) (hS : zz_S A s.heap h H locs) (hTS : zz_T h st) (hls : ls.size = nL) (hT1 : T1.heap = H) (Y : Stand p l e R s m args below meth c T1 locs kc ns) :
    ∃ (v : Addr) (X : String) (h' : zz_H) (T' : State) (Lc : List Loc), post X h' ∧ Stand p l e R s m args below meth c T' (locs ++ Lc) (kc + rm.cells) (ns + rm.slots) ∧ zz_le h h' ∧ zz_W D DA s h' T'.heap ∧ zz_S A s.heap h' T'.heap (locs ++ Lc) ∧ (∃ ce : Cell, T'.heap[v]? = some ce ∧ s.vm.findClass X = some ce.cls ∧ ce.vm = .none) ∧
      Steps p.tables e below (T1.setTop (F0 m pc ls (st.map zz_v))) ((T'.setTop (F0 m pc ls (S.map zz_v))).pushFrame (.throwing v)) := by
  obtain ⟨ys, hys, hAs⟩ := zz_popA_of n [] st As S _ hst
  rw [List.append_nil] at hAs
  obtain ⟨⟨T9, N9, hcl⟩, w1, w2, w3, w4, w5, w6, w7, w8⟩ := hw
  have k1 := (zz_okC ci y.cls T9 N9 hcl).1
  have hts := C.1.2.2.2.2
  have hTs : zz_T h (zz_r ci (some b) :: As) := by
    intro v hv
    apply hTS v
    rw [hys]
    rcases List.mem_cons.mp hv with rfl | hv
    · simp
    · rw [hAs] at hv
      simp [List.mem_reverse.mp hv]
  obtain ⟨nb, htb⟩ := (zz_T_h hTs) b rfl
  have htb : zz_tg h b = some (ci, nb) := htb
  obtain ⟨cellB, hcB, hoB, hclB⟩ := va_recv (q0 := 0) C.2 (zz_at1 hW (zz_cell_obj (DA := DA) htb k1)) hcl rfl
  obtain ⟨mk, methM, hnamed, hmethM, hstM, habM⟩ := Cond.instanceMethod_spec (hts _ w2)
  obtain ⟨methM', cM, hmethM', -, -, -, -, -, -, hsigM⟩ := Cond.code_spec hnamed (hts _ w5)
  cases hmethM.symm.trans hmethM'
  obtain ⟨c2, r2, m2, q1, q2, q3, q4, kP, hkP, hkPi⟩ := Cond.selects_spec (hts _ w3)
  cases hclB.symm.trans q1
  cases (State.methodFound?_of_named hnamed ⟨w6, w7⟩).symm.trans q2
  cases hnamed.symm.trans q3
  have hselP : selectMethod e.platform s.vm cellB.cls mk = .method mk := by rw [Launch.admits_selectMethod Y.admits]; exact q4
  have hstack : (F0 m pc ls (st.map zz_v)).stack = (As.map zz_v).reverse ++ .ref b :: S.map zz_v := by show st.map zz_v = _; rw [hys, hAs]; simp [zz_v, va_rf]
  obtain ⟨vm1, X1, hstep1⟩ := Y.invokevirtual C.1.1 C.1.2.2.2.1 (hts _ w1) hnamed hmethM hstM hkP hkPi ⟨w6, w7⟩ (a := b) (cell := cellB) (by rw [hT1]; exact hcB)
    (fun z hz => by rw [hz] at hoB; cases hoB) hselP hmethM habM hkP hkPi (g := F0 m pc ls (st.map zz_v)) rfl (argsL := As.map zz_v) (rest := S.map zz_v) (by rw [List.length_map, hnA]; exact zz_sig w8 _ hsigM) hstack (by rw [C.1.2.1]; exact hd)
  have hsz : s.heap.size ≤ H.size := hS.1.1
  have hpre : xx_Pre R rm D DA h H.size (zz_r ci (some b) :: As) ⟨T1.setVm vm1, locs, kc, ns⟩ (Value.ref b :: As.map zz_v).toArray := ⟨hf.1, hf.2, rfl, ⟨by show T1.heap.size = _; rw [hT1], by show zz_W D DA _ h T1.heap; rw [hT1]; exact zz_W_moved X1.warmed.alike hW, va_K.moved X1.warmed.alike C.2, hTs⟩, by
    show xx_G _ _ T1.heap
    rw [hT1]
    exact xx_G_go X1.warmed hG (fun a h1 h2 => hS.1.2.1 a h1 h2) (zz_sub hS)⟩
  obtain ⟨v, ⟨U', l2, c2, s2⟩, X', ⟨g', mk', t, Lc, e1, e2, ⟨x, X, h', hp, ho, hce, hE⟩, h1, hLc, h2, h3⟩, hsteps⟩ := xx_back (R := R) (p := p) (e := e) (below := below) (sz := H.size) hM hts w5 w4 hR hT m meth c ⟨T1.setVm vm1, locs, kc, ns⟩ (F0 m pc ls (S.map zz_v)) (.invokevirtual idx) mk (Value.ref b :: As.map zz_v).toArray X1 rfl (hls.trans C.1.2.2.1.symm) (by rw [C.1.2.1]; exact hd) (lv_room (zz_weigh h8)) (X1.named hnamed) hpre
  dsimp only [Pt.U, Pt.locs, Pt.cells, Pt.slots] at X' e1 e2 h1 h2 h3 hsteps
  subst h1; subst h2; subst h3
  have hx9 : v = x := by cases ho; rfl
  subst hx9
  obtain ⟨wv1, wv2⟩ := zz_behind (st₀ := (T1.setVm vm1).calling g' mk' (Value.ref b :: As.map zz_v).toArray) hS hT1 e1 (by rw [← e2]; exact X'.warmed.alike.symm) hLc hE
  refine ⟨v, X, h', U', Lc, hp, X', hE.2.1, wv1, wv2, ?_, hstep1 _ (fun acts => by rw [doInvoke_state]; exact hsteps)⟩
  obtain ⟨ce, g1, g2, g3⟩ := hce
  exact ⟨ce, by rw [e1]; exact g1, by rw [← X1.warmed.alike.findClass]; exact g2, g3⟩
/-- a virtual call throws, and nobody here catches it -/
theorem zz_callVX (C : zz_C p s m args c cc nL own D DA) (hx : zz_CX l s h0 meth c) {idx ci n b maxL : Nat} {y : MethodName} {bytes : ByteArray} {ret : Option FieldType} {rm : Room} {T : zz_TX} {o : Option Nat} {st As : List zz_V} (hM : zz_MetX l y (Cond.code y bytes maxL ret :: zz_all) rm T) (hw : zz_CV own idx ci y bytes maxL ret n) (hd : decode cc pc = .ok (.invokevirtual idx, 3)) (hst : zz_popA n [] st = some (As, zz_r ci o, S)) (hnA : As.length = n) (ho : o = some b)
    (hR : rm.frames + 1 ≤ R.frames ∧ 8 + (maxL + 11) + rm.locals ≤ R.locals) (hf : kc + rm.cells ≤ R.cells ∧ ns + rm.slots ≤ R.slots) (h8 : (S.map zz_cat).sum ≤ 8) (hQ : zz_EndX Q below args s D DA h0 post mc ms) (hc : kc + rm.cells ≤ mc) (hs : ns + rm.slots ≤ ms)
    (hT : T (zz_r ci (some b) :: As) h post) : zz_Z p l e R s m args below meth c Q D DA (zz_A h0 s.heap.size) h0 nL pc L st h kc ns := by
  subst ho
  intro H locs ls hW hS hle hTL hTS hL T1 hT1 Y
  obtain ⟨v, X, h', T', Lc, hp, X', hl9, w1, w2, hce, hsteps⟩ := xx_runV C hx.2.1 hM hw hd hst hnA hR hf h8 hT hW hS hTS hL.1 hT1 Y
  have hlk : meth.locks = false := hx.2.2.2
  obtain ⟨a1, a2, a3, a4, a5⟩ := X'.leaveThrown v (g := F0 m pc ls (S.map zz_v)) rfl rfl rfl (covers_of_empty hx.2.2.1 _)
  refine ⟨_, hsteps.trans a1, hQ _ ⟨.threw v, a2, a3, ⟨v, X, h', hp, rfl, hce, ?_⟩, locs ++ Lc, ⟨⟨v, rfl⟩, a4, a5.mono hc hs⟩, w2.1.2.2⟩⟩
  exact ⟨zz_W_moved a4.alike w1, zz_le_tr hle hl9, w2.1.F rfl, w2.2.2.1⟩
end ZV
/-! contracts as transformers, returns, calls, throws -/
def zz_A (h : zz_H) (sz : Nat) : Nat → Prop := fun q => (∃ ty n, zz_tg h q = some (ty, n) ∧ ty ≠ 93) ∨ sz ≤ q
def zz_E (D : va_G) (DA : Nat → ClassId) (A : Nat → Prop) (h0 h' : zz_H) (st t : State) : Prop := zz_W D DA t h' t.heap ∧ zz_le h0 h' ∧ va_F A st t ∧ ∀ a ty n, zz_tg h' a = some (ty, n) → ty ≠ 93 → A a
def zz_out (D : va_G) (DA : Nat → ClassId) (A : Nat → Prop) (h0 : zz_H) (post : Option zz_V → zz_H → Prop) : Array Value → State → Outcome → State → Prop := fun _ st o t => ∃ (r : Option zz_V) (h' : zz_H), post r h' ∧ o = .returned (r.map zz_v) ∧ (∀ v, r = some v → zz_ty h' v) ∧ zz_E D DA A h0 h' st t
def zz_Pc (D : va_G) (DA : Nat → ClassId) (h : zz_H) (sz : Nat) (as : List zz_V) : Array Value → State → Prop := va_Pc (as.map zz_v) (fun U => U.heap.size = sz ∧ zz_W D DA U h U.heap ∧ zz_K D DA U ∧ zz_T h as)
abbrev zz_Tr : Type := List zz_V → zz_H → (Option zz_V → zz_H → Prop) → Prop
def zz_Met (l : Launch) (y : MethodName) (ws : List Cond) (rm : Room) (T : zz_Tr) : Prop :=
  ∀ (D : va_G) (DA : Nat → ClassId) (h : zz_H) (sz : Nat) (as : List zz_V) (post : Option zz_V → zz_H → Prop), T as h post →
    Met l y ws rm (zz_Pc D DA h sz as) (zz_out D DA (zz_A h sz) h post) rm.cells rm.slots (zz_A h sz)
theorem zz_W_moved {D : va_G} {DA : Nat → ClassId} {u U : State} {h : zz_H} {H : Heap} (hvm : u.vm.Alike U.vm) (hW : zz_W D DA u h H) : zz_W D DA U h H := ⟨hW.1, fun a n ht => (hW.2.1 a n ht).moved hvm, hW.2.2⟩
theorem zz_blind {D : va_G} {DA : Nat → ClassId} {h : zz_H} {sz : Nat} {as : List zz_V} : FrameBlind (zz_Pc D DA h sz as) := by
  intro a U g mk hq
  obtain ⟨q0, q1, q2, q3, q4⟩ := hq
  exact ⟨q0, q1, zz_W_moved (u := U) (U := U.calling g mk a) (Vm.Alike.refl U.vm) q2, va_K.moved (u := U) (U := U.calling g mk a) (Vm.Alike.refl U.vm) q3, q4⟩
/-- a walk that ends so ends well -/
def zz_End (Q : State → Prop) (below : List Frame) (args : Array Value) (s : State) (D : va_G) (DA : Nat → ClassId) (h : zz_H) (post : Option zz_V → zz_H → Prop) (mc ms : Nat) : Prop :=
  ∀ t, MQ below (zz_out D DA (zz_A h s.heap.size) h post) args s mc ms (zz_A h s.heap.size) t → Q t
theorem zz_entry {as : List zz_V} {n : Nat} (h1 : ∀ v ∈ as, zz_cat v = 1) (hn : as.length ≤ n) : zz_Lh ((lg_sl (as.map zz_v) ++ List.replicate (n - (lg_sl (as.map zz_v)).length) Slot.unset).toArray) n (as.map some ++ List.replicate (n - as.length) none) := by
  have hsl : ∀ as : List zz_V, (∀ v ∈ as, zz_cat v = 1) → (lg_sl (as.map zz_v)).length = as.length := by
    intro as
    induction as with
    | nil => intro _; rfl
    | cons v t ih =>
      intro hv
      have hc : ¬ (zz_v v).category = 2 := by rw [zz_cat_v, hv v List.mem_cons_self]; decide
      have := ih (fun w hw => hv w (List.mem_cons_of_mem _ hw))
      simp only [lg_sl, List.map_cons, List.flatMap_cons, hc, if_false, List.length_append, List.length_cons, List.length_nil] at this ⊢
      omega
  have harg : ∀ (as : List zz_V) (k : Nat), (∀ v ∈ as, zz_cat v = 1) → ∀ i v, as[i]? = some v → (k + i, zz_v v) ∈ lv_args k (as.map zz_v) := by
    intro as
    induction as with
    | nil => intro k _ i v hi; simp at hi
    | cons w t ih =>
      intro k hv i v hi
      have hc : ¬ (zz_v w).category = 2 := by rw [zz_cat_v, hv w List.mem_cons_self]; decide
      show _ ∈ (k, zz_v w) :: lv_args (if (zz_v w).category = 2 then k + 2 else k + 1) (t.map zz_v)
      rw [if_neg hc]
      cases i with
      | zero =>
        have : w = v := by simpa using hi
        subst this
        exact List.mem_cons_self
      | succ i =>
        have := ih (k + 1) (fun x hx => hv x (List.mem_cons_of_mem _ hx)) i v (by simpa using hi)
        rw [show k + 1 + i = k + (i + 1) by omega] at this
        exact List.mem_cons_of_mem _ this
  have hl := lv_entry (as.map zz_v) (n := n) (by rw [hsl as h1]; exact hn)
  refine ⟨hl.1, hl.2.1, fun i v hi => ?_⟩
  have hi' : as[i]? = some v := by
    by_cases hil : i < as.length
    · rw [List.getElem?_append_left (by simpa using hil), List.getElem?_map] at hi
      obtain ⟨w, hw, e⟩ := Option.map_eq_some_iff.mp hi
      cases e
      exact hw
    · rw [List.getElem?_append_right (by simpa using hil)] at hi
      have := List.mem_of_getElem? hi
      rw [List.mem_replicate] at this
      cases this.2
  have := harg as 0 h1 i v hi'
  rw [Nat.zero_add] at this
  exact hl.2.2 (i, zz_v v) this
theorem zz_S0 {D : va_G} {DA : Nat → ClassId} {h : zz_H} {s : State} (hW : zz_W D DA s h s.heap) : zz_S (zz_A h s.heap.size) s.heap h s.heap [] := by
  have hlt : ∀ a n, zz_tg h a = some (93, n) → a < s.heap.size := fun a n ht => by
    obtain ⟨scr, h1, -⟩ := hW.2.1 a n ht
    exact (Array.getElem?_eq_some_iff.mp h1).1
  refine ⟨va_S.rf, fun q hq => Or.inr hq, fun a ty n ht h9 => Or.inl ⟨ty, n, ht, h9⟩, fun a n ht => ⟨hlt a n ht, ?_⟩⟩
  rintro (⟨ty, n', ht', h9⟩ | hge)
  · rw [ht] at ht'
    cases ht'
    exact h9 rfl
  · have := hlt a n ht
    omega
theorem zz_TL0 {h : zz_H} {as : List zz_V} {k : Nat} (hTs : zz_T h as) : zz_TL h (as.map some ++ List.replicate k none) := by
  intro i v hi
  by_cases hil : i < as.length
  · rw [List.getElem?_append_left (by simpa using hil), List.getElem?_map] at hi
    obtain ⟨w, hw, e⟩ := Option.map_eq_some_iff.mp hi
    cases e
    exact hTs _ (List.mem_of_getElem? hw)
  · rw [List.getElem?_append_right (by simpa using hil)] at hi
    have := List.mem_of_getElem? hi
    rw [List.mem_replicate] at this
    cases this.2
/-- a method's contract out of its walk -/
theorem zz_ofZ {l : Launch} {y : MethodName} {rm : Room} {T : zz_Tr} {cc : ByteArray} {maxL : Nat} {ret : Option FieldType} (hy : plainName y.cls = true) (hfit : ∀ as h post, T as h post → (∀ v ∈ as, zz_cat v = 1) ∧ as.length ≤ maxL)
    (body : ∀ (D : va_G) (DA : Nat → ClassId) (h : zz_H) (as : List zz_V) (post : Option zz_V → zz_H → Prop), T as h post →
      ∀ (p : Program) (e : Env) (s : State) (m : MethodId) (args : Array Value) (below : List Frame) (meth : Method) (c : Code) (Q : State → Prop), zz_C p s m args c cc maxL y.cls D DA → meth.sig.returnType = ret → meth.locks = false → meth.name = y.name → zz_End Q below args s D DA h post rm.cells rm.slots →
        zz_Z p l e rm s m args below meth c Q D DA (zz_A h s.heap.size) h maxL 0 (as.map some ++ List.replicate (maxL - as.length) none) [] h 0 0) :
    zz_Met l y (Cond.code y cc maxL ret :: zz_all) rm T := by
  intro D DA h sz as post hT
  obtain ⟨hf1, hf2⟩ := hfit as h post hT
  refine Met.ofW (cc := cc) (maxL := maxL) (ret := ret) hy rfl ?_
  intro p e s m args below meth c s₁ B hml hv
  obtain ⟨rfl, hsz, hW, hK, hTs⟩ := hv
  subst hsz
  have hts := atoms_spec (ws := Cond.code y cc maxL ret :: zz_all) B.pre
  have hC : zz_C p s m (as.map zz_v).toArray c cc maxL y.cls D DA := ⟨⟨B.exec, B.bytes, hml, findClass_of_methodNamed B.named, fun w hw => hts w (List.mem_cons_of_mem _ hw)⟩, hK⟩
  have hZ := body D DA h as post hT p e s m _ below meth c _ hC B.returns B.notSynchronized (name_of_methodNamed B.named B.method).1 (fun t ht => ht)
  rw [lg_entry_eq]
  exact hZ s.heap [] _ hW (zz_S0 hW) (zz_le_rf h) (zz_TL0 hTs) (fun _ hz => by cases hz) (zz_entry hf1 hf2)
def zz_popA : Nat → List zz_V → List zz_V → Option (List zz_V × zz_V × List zz_V)
  | 0, acc, v :: S => some (acc, v, S)
  | n + 1, acc, v :: S => zz_popA n (v :: acc) S
  | _, _, [] => none
theorem zz_popA_of : ∀ (n : Nat) (acc st As S : List zz_V) (v : zz_V), zz_popA n acc st = some (As, v, S) → ∃ ys, st = ys ++ v :: S ∧ As = ys.reverse ++ acc := by
  intro n
  induction n with
  | zero =>
    intro acc st As S v hp
    cases st with
    | nil => cases hp
    | cons w t =>
      cases hp
      exact ⟨[], rfl, rfl⟩
  | succ n ih =>
    intro acc st As S v hp
    cases st with
    | nil => cases hp
    | cons w t =>
      obtain ⟨ys, h1, h2⟩ := ih (w :: acc) t As S v hp
      exact ⟨w :: ys, by rw [h1]; rfl, by rw [h2]; simp⟩
def zz_popS : Nat → List zz_V → List zz_V → Option (List zz_V × List zz_V)
  | 0, acc, S => some (acc, S)
  | n + 1, acc, v :: S => zz_popS n (v :: acc) S
  | _ + 1, _, [] => none
theorem zz_popS_of : ∀ (n : Nat) (acc st As S : List zz_V), zz_popS n acc st = some (As, S) → ∃ ys, st = ys ++ S ∧ As = ys.reverse ++ acc := by
  intro n
  induction n with
  | zero =>
    intro acc st As S hp
    cases hp
    exact ⟨[], rfl, rfl⟩
  | succ n ih =>
    intro acc st As S hp
    cases st with
    | nil => cases hp
    | cons w t =>
      obtain ⟨ys, h1, h2⟩ := ih (w :: acc) t As S hp
      exact ⟨w :: ys, by rw [h1]; rfl, by rw [h2]; simp⟩
theorem zz_weigh {S : List zz_V} (h : (S.map zz_cat).sum ≤ 8) : ((S.map zz_v).map fun v => v.category).sum ≤ 8 := by
  rw [List.map_map]
  have : ((fun v : Value => v.category) ∘ zz_v) = zz_cat := by
    funext v
    exact zz_cat_v v
  rw [this]
  exact h
section ZE
variable {p : Program} {l : Launch} {e : Env} {R : Room} {s : State} {m : MethodId} {args : Array Value} {below : List Frame} {meth : Method} {c : Code} {Q : State → Prop}
variable {D : va_G} {DA : Nat → ClassId} {A : Nat → Prop} {h0 h : zz_H} {nL kc ns pc q mc ms : Nat} {cc : ByteArray} {own : String} {L : List (Option zz_V)} {S : List zz_V} {post : Option zz_V → zz_H → Prop}
theorem zz_Wmono {Q' : State → Prop} {H : Heap} {locs : List Loc} {g : JFrame} (hQ : ∀ t, Q t → Q' t) (k : W p l e R s m args below meth c H locs kc ns Q g) : W p l e R s m args below meth c H locs kc ns Q' g := fun T hT X => by
  obtain ⟨t, a, b⟩ := k T hT X
  exact ⟨t, a, hQ t b⟩
theorem zz_end {H : Heap} {locs : List Loc} (hW : zz_W D DA s h H) (hS : zz_S A s.heap h H locs) (hle : zz_le h0 h) {t : State} (ht : t.heap = H) (hvm : s.vm.Alike t.vm) : zz_E D DA A h0 h s t :=
  ⟨zz_W_moved hvm (by rw [ht]; exact hW), hle, hS.1.F ht, hS.2.2.1⟩
theorem zz_iret (C : zz_C p s m args c cc nL own D DA) {x : Int32} (hr : meth.sig.returnType = some .int) (hlk : meth.locks = false) (hd : decode cc pc = .ok (.ireturn, 1)) (hQ : zz_End Q below args s D DA h0 post mc ms) (hc : kc ≤ mc) (hs : ns ≤ ms) (hp : post (some (zz_i x)) h) : zz_Z p l e R s m args below meth c Q D DA (zz_A h0 s.heap.size) h0 nL pc L [zz_i x] h kc ns := by
  intro H locs ls hW hS hle hTL hTS hL
  refine zz_Wmono hQ (W.widen hc hs ?_)
  exact W.iret C.1.1 C.1.2.1 hr (fun t ht hWm => ⟨some (zz_i x), h, hp, rfl, fun v hv => by cases hv; trivial, zz_end hW hS hle ht hWm.alike⟩) hS.1.2.2 hd hlk
theorem zz_zret (C : zz_C p s m args c cc nL own D DA) {x : Int32} (hr : meth.sig.returnType = some .boolean) (hlk : meth.locks = false) (hd : decode cc pc = .ok (.ireturn, 1)) (hx : x = 0 ∨ x = 1) (hQ : zz_End Q below args s D DA h0 post mc ms) (hc : kc ≤ mc) (hs : ns ≤ ms) (hp : post (some (zz_i x)) h) : zz_Z p l e R s m args below meth c Q D DA (zz_A h0 s.heap.size) h0 nL pc L [zz_i x] h kc ns := by
  intro H locs ls hW hS hle hTL hTS hL
  refine zz_Wmono hQ (W.widen hc hs ?_)
  exact W.zret C.1.1 C.1.2.1 hr (by rcases hx with rfl | rfl <;> decide +kernel) (fun t ht hWm => ⟨some (zz_i x), h, hp, rfl, fun v hv => by cases hv; trivial, zz_end hW hS hle ht hWm.alike⟩) hS.1.2.2 hd hlk
theorem zz_aret (C : zz_C p s m args c cc nL own D DA) {t : Nat} {o : Option Nat} {rt : FieldType} (hr : meth.sig.returnType = some rt) (hrt : (∃ n, rt = .object n) ∨ ∃ t, rt = .array t) (hlk : meth.locks = false) (hd : decode cc pc = .ok (.areturn, 1)) (hQ : zz_End Q below args s D DA h0 post mc ms) (hc : kc ≤ mc) (hs : ns ≤ ms) (hp : post (some (zz_r t o)) h) : zz_Z p l e R s m args below meth c Q D DA (zz_A h0 s.heap.size) h0 nL pc L [zz_r t o] h kc ns := by
  intro H locs ls hW hS hle hTL hTS hL
  refine zz_Wmono hQ (W.widen hc hs ?_)
  exact W.aret C.1.1 C.1.2.1 hr hrt (va_rf_or o) (fun t' ht hWm => ⟨some (zz_r t o), h, hp, rfl, fun v hv => by cases hv; exact zz_T_h hTS, zz_end hW hS hle ht hWm.alike⟩) hS.1.2.2 hd hlk
theorem zz_vret (C : zz_C p s m args c cc nL own D DA) (hr : meth.sig.returnType = none) (hlk : meth.locks = false) (hd : decode cc pc = .ok (.return_, 1)) (hQ : zz_End Q below args s D DA h0 post mc ms) (hc : kc ≤ mc) (hs : ns ≤ ms) (hp : post none h) : zz_Z p l e R s m args below meth c Q D DA (zz_A h0 s.heap.size) h0 nL pc L [] h kc ns := by
  intro H locs ls hW hS hle hTL hTS hL
  refine zz_Wmono hQ (W.widen hc hs ?_)
  exact W.vret C.1.1 C.1.2.1 hr (fun t ht hWm => ⟨none, h, hp, rfl, fun v hv => (by cases hv), zz_end hW hS hle ht hWm.alike⟩) hS.1.2.2 hd hlk
theorem zz_sub {H : Heap} {locs : List Loc} (hS : zz_S A s.heap h H locs) : ∀ q, zz_A h H.size q → A q := by
  rintro q (⟨ty, n, ht, h9⟩ | hq)
  · exact hS.2.2.1 q ty n ht h9
  · exact hS.2.1 q (Nat.le_trans hS.1.1 hq)
theorem zz_keep {H : Heap} {locs Lc : List Loc} {st₀ t T' : State} (hS : va_S A s.heap H locs) (h0' : st₀.heap = H) (e1 : T'.heap = t.heap) (hsub : ∀ q, zz_A h H.size q → A q) (hL : ∀ z ∈ Lc, zz_A h H.size z.base) (hF : va_F (zz_A h H.size) st₀ t) : va_S A s.heap T'.heap (locs ++ Lc) := by
  obtain ⟨f1, f2⟩ := hF
  rw [h0'] at f1 f2
  refine ⟨by rw [e1]; exact Nat.le_trans hS.1 f1, fun q g1 g2 => ?_, fun z hz => ?_⟩
  · rw [e1, f2 q (Nat.lt_of_lt_of_le g1 hS.1) (fun w => g2 (hsub q w))]
    exact hS.2.1 q g1 g2
  · rcases List.mem_append.mp hz with hz | hz
    · exact hS.2.2 z hz
    · exact hsub _ (hL z hz)
/-- the world behind a call -/
theorem zz_behind {h' : zz_H} {H : Heap} {locs Lc : List Loc} {st₀ t T' : State} (hS : zz_S A s.heap h H locs) (h0' : st₀.heap = H) (e1 : T'.heap = t.heap) (hvm : t.vm.Alike s.vm) (hL : ∀ z ∈ Lc, zz_A h H.size z.base) (hE : zz_E D DA (zz_A h H.size) h h' st₀ t) : zz_W D DA s h' T'.heap ∧ zz_S A s.heap h' T'.heap (locs ++ Lc) := by
  obtain ⟨g1, g3, g4, g5⟩ := hE
  have hsub := zz_sub hS
  exact ⟨by rw [e1]; exact zz_W_moved hvm g1, zz_keep hS.1 h0' e1 hsub hL g4, hS.2.1, fun a ty n ht h9 => hsub a (g5 a ty n ht h9), fun a n ht => hS.2.2.2 a n (g3.2 a n ht)⟩
theorem zz_call0 {a9 : Array Value} {H : Heap} {locs : List Loc} {ls : Array Slot} {st0 : List Value} (hS : zz_S A s.heap h H locs) (hle : zz_le h0 h) (hTL : zz_TL h L) (hTS : zz_T h S) (hL : zz_Lh ls nL L)
    (hr : va_Run p l e R s m args below meth c H locs kc ns mc ms (F0 m pc ls st0) (S.map zz_v) (zz_out D DA (zz_A h H.size) h post a9) (zz_A h H.size))
    (hp : ∀ r h', post r h' → zz_Z p l e R s m args below meth c Q D DA A h0 nL (pc + 3) L (r.toList ++ S) h' (kc + mc) (ns + ms)) : W p l e R s m args below meth c H locs kc ns Q (F0 m pc ls st0) := by
  intro T hT X
  obtain ⟨v, st₀, t, T', Lc, g0, X', hLc, e1, e2, ⟨r, h', hq, ho, hty, hE⟩, st⟩ := hr T hT X
  have hv : v = r.map zz_v := by cases ho; rfl
  subst hv
  obtain ⟨w1, w2⟩ := zz_behind hS g0 e1 (by rw [← e2]; exact X'.warmed.alike.symm) hLc hE
  have hl := hE.2.1
  have hTS' : zz_T h' (r.toList ++ S) := by
    intro w hw
    rcases List.mem_append.mp hw with hw | hw
    · exact hty w (Option.mem_toList.mp hw)
    · exact zz_ty_le hl.1 (hTS w hw)
  obtain ⟨t2, a1, b1⟩ := hp r h' hq T'.heap (locs ++ Lc) ls w1 w2 (zz_le_tr hle hl) (zz_TL_le hl.1 hTL) hTS' hL T' rfl X'
  refine ⟨t2, st t2 ?_, b1⟩
  have e9 : (r.toList ++ S).map zz_v = (r.map zz_v).toList ++ S.map zz_v := by cases r <;> rfl
  rw [e9] at a1
  exact a1
/-- the callee's start -/
theorem zz_start (C : zz_C p s m args c cc nL own D DA) {H : Heap} {as : List zz_V} (hW : zz_W D DA s h H) (hTs : zz_T h as) (U : State) (hU : U.heap = H) (hWm : s.WarmedH U.vm) : zz_Pc D DA h H.size as (as.map zz_v).toArray U :=
  ⟨rfl, by rw [hU], by rw [hU]; exact zz_W_moved hWm.alike hW, va_K.moved hWm.alike C.2, hTs⟩
theorem zz_pay {y : MethodName} {bytes : ByteArray} {maxL : Nat} {ret : Option FieldType} (hts : ∀ w ∈ zz_all, w.before args s = true) (hw : Cond.code y bytes maxL ret ∈ zz_all) : ∀ w ∈ Cond.code y bytes maxL ret :: zz_all, ∀ (a' : Array Value) (U : State), s.WarmedH U.vm → w.before a' U = true := fun w h a' U hW => by
  rcases List.mem_cons.mp h with rfl | h
  · exact zz_payW (zz_good _ hw) (hts _ hw) hW
  · exact zz_payW (zz_good _ h) (hts _ h) hW
theorem zz_sig {d : String} {n : Nat} (h8 : (parseMethodDescriptor d).map (fun d => d.parameters.length) = some n) : ∀ sig, parseMethodDescriptor d = some sig → n = sig.parameters.length := fun sig h => by
  rw [h] at h8
  exact (Option.some.inj h8).symm
/-- the words of a call -/
def zz_CV (own : String) (idx ci : Nat) (y : MethodName) (bytes : ByteArray) (maxL : Nat) (ret : Option FieldType) (n : Nat) : Prop :=
  (∃ T N, zz_cl[ci]? = some (y.cls, T, N)) ∧ Cond.methodLink own idx y ∈ zz_all ∧ Cond.instanceMethod y ∈ zz_all ∧ Cond.selects y.cls y y ∈ zz_all ∧ Cond.initialized y.cls ∈ zz_all ∧ Cond.code y bytes maxL ret ∈ zz_all ∧ y.cls ≠ "java/lang/invoke/MethodHandle" ∧ y.cls ≠ "java/lang/invoke/VarHandle" ∧ (parseMethodDescriptor y.desc).map (fun d => d.parameters.length) = some n
def zz_CS (own : String) (idx : Nat) (y : MethodName) (bytes : ByteArray) (maxL : Nat) (ret : Option FieldType) (n : Nat) : Prop :=
  Cond.methodLink own idx y ∈ zz_all ∧ Cond.static y ∈ zz_all ∧ Cond.initialized y.cls ∈ zz_all ∧ Cond.code y bytes maxL ret ∈ zz_all ∧ y.cls = own ∧ y.cls ≠ "java/lang/invoke/MethodHandle" ∧ y.cls ≠ "java/lang/invoke/VarHandle" ∧ (parseMethodDescriptor y.desc).map (fun d => d.parameters.length) = some n
def zz_CI (own : String) (idx ci : Nat) (y : MethodName) (bytes : ByteArray) (maxL : Nat) (n : Nat) : Prop :=
  (∃ T N, zz_cl[ci]? = some (y.cls, T, N)) ∧ Cond.methodLink own idx y ∈ zz_all ∧ Cond.instanceMethod y ∈ zz_all ∧ Cond.initialized y.cls ∈ zz_all ∧ Cond.code y bytes maxL none ∈ zz_all ∧ y.name = "<init>" ∧ y.cls ≠ "java/lang/invoke/MethodHandle" ∧ y.cls ≠ "java/lang/invoke/VarHandle" ∧ (parseMethodDescriptor y.desc).map (fun d => d.parameters.length) = some n
theorem zz_callV (C : zz_C p s m args c cc nL own D DA) {idx ci n b maxL : Nat} {y : MethodName} {bytes : ByteArray} {ret : Option FieldType} {rm : Room} {T : zz_Tr} {o : Option Nat} {st As : List zz_V} (hM : zz_Met l y (Cond.code y bytes maxL ret :: zz_all) rm T) (hw : zz_CV own idx ci y bytes maxL ret n) (hd : decode cc pc = .ok (.invokevirtual idx, 3)) (hq : pc + 3 = q) (hst : zz_popA n [] st = some (As, zz_r ci o, S)) (hnA : As.length = n) (ho : o = some b)
    (hR : rm.frames + 1 ≤ R.frames ∧ 8 + (maxL + 11) + rm.locals ≤ R.locals) (hf : kc + rm.cells ≤ R.cells ∧ ns + rm.slots ≤ R.slots) (h8 : (S.map zz_cat).sum ≤ 8)
    (hT : T (zz_r ci (some b) :: As) h (fun r h' => (zz_Z p l e R s m args below meth c Q D DA A h0 nL q L (r.toList ++ S) h' (kc + rm.cells) (ns + rm.slots)))) : (zz_Z p l e R s m args below meth c Q D DA A h0 nL pc L st h kc ns) := by
  subst hq
  subst ho
  obtain ⟨ys, hys, hAs⟩ := zz_popA_of n [] st As S _ hst
  rw [List.append_nil] at hAs
  obtain ⟨⟨T9, N9, hcl⟩, w1, w2, w3, w4, w5, w6, w7, w8⟩ := hw
  have k1 := (zz_okC ci y.cls T9 N9 hcl).1
  intro H locs ls hW hS hle hTL hTS hL
  have hTs : zz_T h (zz_r ci (some b) :: As) := by
    intro v hv
    apply hTS v
    rw [hys]
    rcases List.mem_cons.mp hv with rfl | hv
    · simp
    · rw [hAs] at hv
      simp [List.mem_reverse.mp hv]
  have hTS' : zz_T h S := fun v hv => hTS v (by rw [hys]; simp [hv])
  obtain ⟨nb, htb⟩ := (zz_T_h hTs) b rfl
  have htb : zz_tg h b = some (ci, nb) := htb
  have ht := C.1.2.2.2.2
  have cw : CallW R s args own y.cls idx y bytes maxL ret (Cond.code y bytes maxL ret :: zz_all) rm rm.cells rm.slots n := ⟨⟨rfl, rfl, hR.1, hR.2, zz_pay ht w5, List.mem_cons_self, ht _ w5, ht _ w4, ⟨w6, w7⟩, zz_sig w8, ht _ w1⟩, ht _ w2, ht _ w3⟩
  have hrun : va_Run p l e R s m args below meth c H locs kc ns rm.cells rm.slots (F0 m pc ls (st.map zz_v)) (S.map zz_v) _ (zz_A h H.size) := va_runV (g := F0 m pc ls (st.map zz_v)) (As := As.map zz_v) (b := b) (rest := S.map zz_v) C.1 (hM D DA h H.size (zz_r ci (some b) :: As) _ hT) cw
    ⟨zz_blind, va_recv (q0 := 0) C.2 (zz_at1 hW (zz_cell_obj (DA := DA) htb k1)) hcl rfl, fun U hU hWm => zz_start C hW hTs U hU hWm⟩ rfl (by simp [hnA]) hL.1 (by show st.map zz_v = _; rw [hys, hAs]; simp [zz_v, va_rf]) (lv_room (zz_weigh h8)) hd hf
  exact zz_call0 hS hle hTL hTS' hL hrun (fun r h' hq => hq)
theorem zz_callS (C : zz_C p s m args c cc nL own D DA) {idx n maxL : Nat} {y : MethodName} {bytes : ByteArray} {ret : Option FieldType} {rm : Room} {T : zz_Tr} {st As : List zz_V} (hM : zz_Met l y (Cond.code y bytes maxL ret :: zz_all) rm T) (hw : zz_CS own idx y bytes maxL ret n) (hd : decode cc pc = .ok (.invokestatic idx, 3)) (hq : pc + 3 = q) (hst : zz_popS n [] st = some (As, S)) (hnA : As.length = n)
    (hR : rm.frames + 1 ≤ R.frames ∧ 8 + (maxL + 11) + rm.locals ≤ R.locals) (hf : kc + rm.cells ≤ R.cells ∧ ns + rm.slots ≤ R.slots) (h8 : (S.map zz_cat).sum ≤ 8)
    (hT : T As h (fun r h' => (zz_Z p l e R s m args below meth c Q D DA A h0 nL q L (r.toList ++ S) h' (kc + rm.cells) (ns + rm.slots)))) : (zz_Z p l e R s m args below meth c Q D DA A h0 nL pc L st h kc ns) := by
  subst hq
  obtain ⟨ys, hys, hAs⟩ := zz_popS_of n [] st As S hst
  rw [List.append_nil] at hAs
  obtain ⟨w1, w2, w3, w4, w5, w6, w7, w8⟩ := hw
  intro H locs ls hW hS hle hTL hTS hL
  have hTs : zz_T h As := by
    intro v hv
    apply hTS v
    rw [hys]
    rw [hAs] at hv
    simp [List.mem_reverse.mp hv]
  have hTS' : zz_T h S := fun v hv => hTS v (by rw [hys]; simp [hv])
  have ht := C.1.2.2.2.2
  have cw : CallB R s args own idx y bytes maxL ret (Cond.code y bytes maxL ret :: zz_all) rm rm.cells rm.slots n ∧ (Cond.static y).before args s = true := ⟨⟨rfl, rfl, hR.1, hR.2, zz_pay ht w4, List.mem_cons_self, ht _ w4, ht _ w3, ⟨w6, w7⟩, zz_sig w8, ht _ w1⟩, ht _ w2⟩
  have hrun : va_Run p l e R s m args below meth c H locs kc ns rm.cells rm.slots (F0 m pc ls (st.map zz_v)) (S.map zz_v) _ (zz_A h H.size) := va_runS (g := F0 m pc ls (st.map zz_v)) (As := As.map zz_v) (rest := S.map zz_v) C.1 (hM D DA h H.size As _ hT) cw
    ⟨zz_blind, fun U hU hWm => zz_start C hW hTs U hU hWm⟩ rfl (by simp [hnA]) hL.1 (by show st.map zz_v = _; rw [hys, hAs]; simp) (lv_room (zz_weigh h8)) hd hf
  exact zz_call0 hS hle hTL hTS' hL hrun (fun r h' hq => hq)
theorem zz_callI (C : zz_C p s m args c cc nL own D DA) {idx ci n b maxL : Nat} {y : MethodName} {bytes : ByteArray} {rm : Room} {T : zz_Tr} {o : Option Nat} {st As : List zz_V} (hM : zz_Met l y (Cond.code y bytes maxL none :: zz_all) rm T) (hw : zz_CI own idx ci y bytes maxL n) (hd : decode cc pc = .ok (.invokespecial idx, 3)) (hq : pc + 3 = q) (hst : zz_popA n [] st = some (As, zz_r ci o, S)) (hnA : As.length = n) (ho : o = some b)
    (hR : rm.frames + 1 ≤ R.frames ∧ 8 + (maxL + 11) + rm.locals ≤ R.locals) (hf : kc + rm.cells ≤ R.cells ∧ ns + rm.slots ≤ R.slots) (h8 : (S.map zz_cat).sum ≤ 8)
    (hT : T (zz_r ci (some b) :: As) h (fun r h' => (zz_Z p l e R s m args below meth c Q D DA A h0 nL q L (r.toList ++ S) h' (kc + rm.cells) (ns + rm.slots)))) : (zz_Z p l e R s m args below meth c Q D DA A h0 nL pc L st h kc ns) := by
  subst hq
  subst ho
  obtain ⟨ys, hys, hAs⟩ := zz_popA_of n [] st As S _ hst
  rw [List.append_nil] at hAs
  obtain ⟨⟨T9, N9, hcl⟩, w1, w2, w4, w5, w9, w6, w7, w8⟩ := hw
  intro H locs ls hW hS hle hTL hTS hL
  have hTs : zz_T h (zz_r ci (some b) :: As) := by
    intro v hv
    apply hTS v
    rw [hys]
    rcases List.mem_cons.mp hv with rfl | hv
    · simp
    · rw [hAs] at hv
      simp [List.mem_reverse.mp hv]
  have hTS' : zz_T h S := fun v hv => hTS v (by rw [hys]; simp [hv])
  have ht := C.1.2.2.2.2
  have cw : CallB R s args own idx y bytes maxL none (Cond.code y bytes maxL none :: zz_all) rm rm.cells rm.slots n ∧ y.name = "<init>" ∧ (Cond.instanceMethod y).before args s = true := ⟨⟨rfl, rfl, hR.1, hR.2, zz_pay ht w5, List.mem_cons_self, ht _ w5, ht _ w4, ⟨w6, w7⟩, zz_sig w8, ht _ w1⟩, w9, ht _ w2⟩
  have hrun : va_Run p l e R s m args below meth c H locs kc ns rm.cells rm.slots (F0 m pc ls (st.map zz_v)) (S.map zz_v) _ (zz_A h H.size) := va_runI (g := F0 m pc ls (st.map zz_v)) (As := As.map zz_v) (b := b) (rest := S.map zz_v) C.1 (hM D DA h H.size (zz_r ci (some b) :: As) _ hT) cw
    ⟨zz_blind, fun U hU hWm => zz_start C hW hTs U hU hWm⟩ rfl (by simp [hnA]) hL.1 (by show st.map zz_v = _; rw [hys, hAs]; simp [zz_v, va_rf]) (lv_room (zz_weigh h8)) hd hf
  exact zz_call0 hS hle hTL hTS' hL hrun (fun r h' hq => hq)
def zz_CN (own : String) (idx ci : Nat) (y : MethodName) (host : String) (bytes : ByteArray) (maxL : Nat) (n : Nat) : Prop :=
  (∃ T N, zz_cl[ci]? = some (y.cls, T, N)) ∧ Cond.methodLinkNest own idx y host ∈ zz_all ∧ Cond.instanceMethod y ∈ zz_all ∧ Cond.initialized y.cls ∈ zz_all ∧ Cond.code y bytes maxL none ∈ zz_all ∧ y.name = "<init>" ∧ y.cls ≠ "java/lang/invoke/MethodHandle" ∧ y.cls ≠ "java/lang/invoke/VarHandle" ∧ (parseMethodDescriptor y.desc).map (fun d => d.parameters.length) = some n
theorem zz_callN (C : zz_C p s m args c cc nL own D DA) {idx ci n b maxL : Nat} {host : String} {y : MethodName} {bytes : ByteArray} {rm : Room} {T : zz_Tr} {o : Option Nat} {st As : List zz_V} (hM : zz_Met l y (Cond.code y bytes maxL none :: zz_all) rm T) (hw : zz_CN own idx ci y host bytes maxL n) (hd : decode cc pc = .ok (.invokespecial idx, 3)) (hq : pc + 3 = q) (hst : zz_popA n [] st = some (As, zz_r ci o, S)) (hnA : As.length = n) (ho : o = some b)
    (hR : rm.frames + 1 ≤ R.frames ∧ 8 + (maxL + 11) + rm.locals ≤ R.locals) (hf : kc + rm.cells ≤ R.cells ∧ ns + rm.slots ≤ R.slots) (h8 : (S.map zz_cat).sum ≤ 8)
    (hT : T (zz_r ci (some b) :: As) h (fun r h' => (zz_Z p l e R s m args below meth c Q D DA A h0 nL q L (r.toList ++ S) h' (kc + rm.cells) (ns + rm.slots)))) : (zz_Z p l e R s m args below meth c Q D DA A h0 nL pc L st h kc ns) := by
  subst hq
  subst ho
  obtain ⟨ys, hys, hAs⟩ := zz_popA_of n [] st As S _ hst
  rw [List.append_nil] at hAs
  obtain ⟨⟨T9, N9, hcl⟩, w1, w2, w4, w5, w9, w6, w7, w8⟩ := hw
  intro H locs ls hW hS hle hTL hTS hL
  have hTs : zz_T h (zz_r ci (some b) :: As) := by
    intro v hv
    apply hTS v
    rw [hys]
    rcases List.mem_cons.mp hv with rfl | hv
    · simp
    · rw [hAs] at hv
      simp [List.mem_reverse.mp hv]
  have hTS' : zz_T h S := fun v hv => hTS v (by rw [hys]; simp [hv])
  have ht := C.1.2.2.2.2
  have cw : va_CN R s args own idx y host bytes maxL none (Cond.code y bytes maxL none :: zz_all) rm rm.cells rm.slots n ∧ y.name = "<init>" ∧ (Cond.instanceMethod y).before args s = true := ⟨⟨⟨rfl, rfl, hR.1, hR.2, zz_pay ht w5, List.mem_cons_self⟩, ht _ w5, ht _ w4, ⟨w6, w7⟩, zz_sig w8, ht _ w1⟩, w9, ht _ w2⟩
  have hrun : va_Run p l e R s m args below meth c H locs kc ns rm.cells rm.slots (F0 m pc ls (st.map zz_v)) (S.map zz_v) _ (zz_A h H.size) := va_runIN (g := F0 m pc ls (st.map zz_v)) (As := As.map zz_v) (b := b) (rest := S.map zz_v) C.1 (hM D DA h H.size (zz_r ci (some b) :: As) _ hT) cw
    ⟨zz_blind, fun U hU hWm => zz_start C hW hTs U hU hWm⟩ rfl (by simp [hnA]) hL.1 (by show st.map zz_v = _; rw [hys, hAs]; simp [zz_v, va_rf]) (lv_room (zz_weigh h8)) hd hf
  exact zz_call0 hS hle hTL hTS' hL hrun (fun r h' hq => hq)
end ZE

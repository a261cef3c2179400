/-! the judgement of the small machine and a rule an instruction -/
def zz_K (D : va_G) (DA : Nat → ClassId) (U : State) : Prop := va_K D zz_cl (zz_ats DA) U
def zz_C (p : Program) (s : State) (m : MethodId) (args : Array Value) (c : Code) (cc : ByteArray) (nL : Nat) (own : String) (D : va_G) (DA : Nat → ClassId) : Prop := CallFix p m c cc nL s args zz_all own ∧ zz_K D DA s
def zz_Z (p : Program) (l : Launch) (e : Env) (R : Room) (s : State) (m : MethodId) (args : Array Value) (below : List Frame) (meth : Method) (c : Code) (Q : State → Prop) (D : va_G) (DA : Nat → ClassId) (A : Nat → Prop) (h0 : zz_H) (nL : Nat) (pc : Nat) (L : List (Option zz_V)) (S : List zz_V) (h : zz_H) (kc ns : Nat) : Prop :=
  ∀ (H : Heap) (locs : List Loc) (ls : Array Slot), zz_W D DA s h H → zz_S A s.heap h H locs → zz_le h0 h → zz_TL h L → zz_T h S → zz_Lh ls nL L → W p l e R s m args below meth c H locs kc ns Q (F0 m pc ls (S.map zz_v))
theorem zz_T_c {h : zz_H} {v : zz_V} {S : List zz_V} (hv : zz_ty h v) (hS : zz_T h S) : zz_T h (v :: S) := fun w hw => by
  rcases List.mem_cons.mp hw with rfl | hw
  · exact hv
  · exact hS w hw
theorem zz_T_h {h : zz_H} {v : zz_V} {S : List zz_V} (hS : zz_T h (v :: S)) : zz_ty h v := hS v List.mem_cons_self
theorem zz_T_t {h : zz_H} {v : zz_V} {S : List zz_V} (hS : zz_T h (v :: S)) : zz_T h S := fun w hw => hS w (List.mem_cons_of_mem _ hw)
section ZR
variable {p : Program} {l : Launch} {e : Env} {R : Room} {s : State} {m : MethodId} {args : Array Value} {below : List Frame} {meth : Method} {c : Code} {Q : State → Prop}
variable {D : va_G} {DA : Nat → ClassId} {A : Nat → Prop} {h0 h : zz_H} {nL kc ns pc q : Nat} {cc : ByteArray} {own : String} {L : List (Option zz_V)} {S : List zz_V}
theorem zz_weak (M : List Bool) (k : (zz_Z p l e R s m args below meth c Q D DA A h0 nL pc (zz_msk L M) S h kc ns)) : (zz_Z p l e R s m args below meth c Q D DA A h0 nL pc L S h kc ns) := by
  intro H locs ls hW hS hle hTL hTS hL
  exact k H locs ls hW hS hle (fun i v hi => hTL i v (zz_msk_at hi)) hTS ⟨hL.1, hL.2.1, fun i v hi => hL.2.2 i v (zz_msk_at hi)⟩
theorem zz_wide {k n : Nat} (h1 : kc ≤ k) (h2 : ns ≤ n) (kk : (zz_Z p l e R s m args below meth c Q D DA A h0 nL pc L S h k n)) : (zz_Z p l e R s m args below meth c Q D DA A h0 nL pc L S h kc ns) := by
  intro H locs ls hW hS hle hTL hTS hL
  exact W.widen h1 h2 (kk H locs ls hW hS hle hTL hTS hL)
/-- what the heap's typing gives is at hand -/
theorem zz_know (k : zz_tyH h → zz_le h0 h → zz_TL h L → zz_T h S → (zz_Z p l e R s m args below meth c Q D DA A h0 nL pc L S h kc ns)) : (zz_Z p l e R s m args below meth c Q D DA A h0 nL pc L S h kc ns) := by
  intro H locs ls hW hS hle hTL hTS hL
  exact k hW.2.2 hle hTL hTS H locs ls hW hS hle hTL hTS hL
theorem zz_iconst (C : zz_C p s m args c cc nL own D DA) {n : Int} {x : Int32} (hd : decode cc pc = .ok (.iconst n, 1)) (hq : pc + 1 = q) (hv : Int32.ofInt n = x) (k : (zz_Z p l e R s m args below meth c Q D DA A h0 nL q L (zz_i x :: S) h kc ns)) : (zz_Z p l e R s m args below meth c Q D DA A h0 nL pc L S h kc ns) := by
  subst hq
  intro H locs ls hW hS hle hTL hTS hL
  exact lv_iconst C.1.1 C.1.2.1 hd hv (k H locs ls hW hS hle hTL (zz_T_c trivial hTS) hL)
theorem zz_bipush (C : zz_C p s m args c cc nL own D DA) {n : Int} {x : Int32} (hd : decode cc pc = .ok (.bipush n, 2)) (hq : pc + 2 = q) (hv : (Int8.ofInt n).toInt32 = x) (k : (zz_Z p l e R s m args below meth c Q D DA A h0 nL q L (zz_i x :: S) h kc ns)) : (zz_Z p l e R s m args below meth c Q D DA A h0 nL pc L S h kc ns) := by
  subst hq
  intro H locs ls hW hS hle hTL hTS hL
  exact lv_bipush C.1.1 C.1.2.1 hd hv (k H locs ls hW hS hle hTL (zz_T_c trivial hTS) hL)
theorem zz_sipush (C : zz_C p s m args c cc nL own D DA) {n : Int} {x : Int32} (hd : decode cc pc = .ok (.sipush n, 3)) (hq : pc + 3 = q) (hv : (Int16.ofInt n).toInt32 = x) (k : (zz_Z p l e R s m args below meth c Q D DA A h0 nL q L (zz_i x :: S) h kc ns)) : (zz_Z p l e R s m args below meth c Q D DA A h0 nL pc L S h kc ns) := by
  subst hq
  intro H locs ls hW hS hle hTL hTS hL
  exact lv_sipush C.1.1 C.1.2.1 hd hv (k H locs ls hW hS hle hTL (zz_T_c trivial hTS) hL)
theorem zz_lconst (C : zz_C p s m args c cc nL own D DA) {n : Fin 2} {x : Int64} (hd : decode cc pc = .ok (.lconst n, 1)) (hq : pc + 1 = q) (hv : Int64.ofNat (n : Nat) = x) (k : (zz_Z p l e R s m args below meth c Q D DA A h0 nL q L (zz_l x :: S) h kc ns)) : (zz_Z p l e R s m args below meth c Q D DA A h0 nL pc L S h kc ns) := by
  subst hq
  intro H locs ls hW hS hle hTL hTS hL
  exact lv_lconst C.1.1 C.1.2.1 hd hv (k H locs ls hW hS hle hTL (zz_T_c trivial hTS) hL)
theorem zz_ldc2 (C : zz_C p s m args c cc nL own D DA) {i : Nat} {x : Int64} (hw : Jvm.Cond.constantLong own i x ∈ zz_all) (hd : decode cc pc = .ok (.ldc2_w i, 3)) (hq : pc + 3 = q) (k : (zz_Z p l e R s m args below meth c Q D DA A h0 nL q L (zz_l x :: S) h kc ns)) : (zz_Z p l e R s m args below meth c Q D DA A h0 nL pc L S h kc ns) := by
  subst hq
  intro H locs ls hW hS hle hTL hTS hL
  exact lv_ldc2 C.1.1 C.1.2.1 C.1.2.2.2.1 (C.1.2.2.2.2 _ hw) hd (k H locs ls hW hS hle hTL (zz_T_c trivial hTS) hL)
theorem zz_null (C : zz_C p s m args c cc nL own D DA) (t : Nat) (hd : decode cc pc = .ok (.aconst_null, 1)) (hq : pc + 1 = q) (k : (zz_Z p l e R s m args below meth c Q D DA A h0 nL q L (zz_r t none :: S) h kc ns)) : (zz_Z p l e R s m args below meth c Q D DA A h0 nL pc L S h kc ns) := by
  subst hq
  intro H locs ls hW hS hle hTL hTS hL
  exact lv_null C.1.1 C.1.2.1 hd (k H locs ls hW hS hle hTL (zz_T_c (fun b hb => by cases hb) hTS) hL)
theorem zz_iload (C : zz_C p s m args c cc nL own D DA) {i : Nat} {x : Int32} (hd : decode cc pc = .ok (.iload i, 2)) (hq : pc + 2 = q) (hi : L[i]? = some (some (zz_i x))) (k : (zz_Z p l e R s m args below meth c Q D DA A h0 nL q L (zz_i x :: S) h kc ns)) : (zz_Z p l e R s m args below meth c Q D DA A h0 nL pc L S h kc ns) := by
  subst hq
  intro H locs ls hW hS hle hTL hTS hL
  exact lv_iload C.1.1 C.1.2.1 hd (hL.2.2 i _ hi) (k H locs ls hW hS hle hTL (zz_T_c trivial hTS) hL)
theorem zz_iload_n (C : zz_C p s m args c cc nL own D DA) {f : Fin 4} {i : Nat} {x : Int32} (hd : decode cc pc = .ok (.iload_n f, 1)) (hq : pc + 1 = q) (hf : (f : Nat) = i) (hi : L[i]? = some (some (zz_i x))) (k : (zz_Z p l e R s m args below meth c Q D DA A h0 nL q L (zz_i x :: S) h kc ns)) : (zz_Z p l e R s m args below meth c Q D DA A h0 nL pc L S h kc ns) := by
  subst hq
  intro H locs ls hW hS hle hTL hTS hL
  exact lv_iload_n C.1.1 C.1.2.1 hd hf (hL.2.2 i _ hi) (k H locs ls hW hS hle hTL (zz_T_c trivial hTS) hL)
theorem zz_lload (C : zz_C p s m args c cc nL own D DA) {i : Nat} {x : Int64} (hd : decode cc pc = .ok (.lload i, 2)) (hq : pc + 2 = q) (hi : L[i]? = some (some (zz_l x))) (k : (zz_Z p l e R s m args below meth c Q D DA A h0 nL q L (zz_l x :: S) h kc ns)) : (zz_Z p l e R s m args below meth c Q D DA A h0 nL pc L S h kc ns) := by
  subst hq
  intro H locs ls hW hS hle hTL hTS hL
  exact lv_lload C.1.1 C.1.2.1 hd (hL.2.2 i _ hi) (k H locs ls hW hS hle hTL (zz_T_c trivial hTS) hL)
theorem zz_lload_n (C : zz_C p s m args c cc nL own D DA) {f : Fin 4} {i : Nat} {x : Int64} (hd : decode cc pc = .ok (.lload_n f, 1)) (hq : pc + 1 = q) (hf : (f : Nat) = i) (hi : L[i]? = some (some (zz_l x))) (k : (zz_Z p l e R s m args below meth c Q D DA A h0 nL q L (zz_l x :: S) h kc ns)) : (zz_Z p l e R s m args below meth c Q D DA A h0 nL pc L S h kc ns) := by
  subst hq
  intro H locs ls hW hS hle hTL hTS hL
  exact lv_lload_n C.1.1 C.1.2.1 hd hf (hL.2.2 i _ hi) (k H locs ls hW hS hle hTL (zz_T_c trivial hTS) hL)
theorem zz_aload (C : zz_C p s m args c cc nL own D DA) {i t : Nat} {o : Option Nat} (hd : decode cc pc = .ok (.aload i, 2)) (hq : pc + 2 = q) (hi : L[i]? = some (some (zz_r t o))) (k : (zz_Z p l e R s m args below meth c Q D DA A h0 nL q L (zz_r t o :: S) h kc ns)) : (zz_Z p l e R s m args below meth c Q D DA A h0 nL pc L S h kc ns) := by
  subst hq
  intro H locs ls hW hS hle hTL hTS hL
  have w := k H locs ls hW hS hle hTL (zz_T_c (hTL i _ hi) hTS) hL
  have hl := hL.2.2 i _ hi
  cases o with
  | none => exact lv_aloadN C.1.1 C.1.2.1 hd hl w
  | some a => exact lv_aload C.1.1 C.1.2.1 hd hl w
theorem zz_aload_n (C : zz_C p s m args c cc nL own D DA) {f : Fin 4} {i t : Nat} {o : Option Nat} (hd : decode cc pc = .ok (.aload_n f, 1)) (hq : pc + 1 = q) (hf : (f : Nat) = i) (hi : L[i]? = some (some (zz_r t o))) (k : (zz_Z p l e R s m args below meth c Q D DA A h0 nL q L (zz_r t o :: S) h kc ns)) : (zz_Z p l e R s m args below meth c Q D DA A h0 nL pc L S h kc ns) := by
  subst hq
  intro H locs ls hW hS hle hTL hTS hL
  have w := k H locs ls hW hS hle hTL (zz_T_c (hTL i _ hi) hTS) hL
  have hl := hL.2.2 i _ hi
  cases o with
  | none => exact lv_aload_nN C.1.1 C.1.2.1 hd hf hl w
  | some a => exact lv_aload_n C.1.1 C.1.2.1 hd hf hl w
theorem zz_istore (C : zz_C p s m args c cc nL own D DA) {i : Nat} {x : Int32} (hd : decode cc pc = .ok (.istore i, 2)) (hq : pc + 2 = q) (hi : i < nL) (hn : zz_nl L i = true) (k : (zz_Z p l e R s m args below meth c Q D DA A h0 nL q (L.set i (some (zz_i x))) S h kc ns)) : (zz_Z p l e R s m args below meth c Q D DA A h0 nL pc L (zz_i x :: S) h kc ns) := by
  subst hq
  intro H locs ls hW hS hle hTL hTS hL
  exact lv_istore C.1.1 C.1.2.1 hd (zz_Lh_has hL) hi rfl (fun ls' hL' => k H locs ls' hW hS hle (zz_TL_set hTL trivial) (zz_T_t hTS) (zz_Lh_set1 (v := zz_i x) hn hL'))
theorem zz_istore_n (C : zz_C p s m args c cc nL own D DA) {f : Fin 4} {i : Nat} {x : Int32} (hd : decode cc pc = .ok (.istore_n f, 1)) (hq : pc + 1 = q) (hf : (f : Nat) = i) (hi : i < nL) (hn : zz_nl L i = true) (k : (zz_Z p l e R s m args below meth c Q D DA A h0 nL q (L.set i (some (zz_i x))) S h kc ns)) : (zz_Z p l e R s m args below meth c Q D DA A h0 nL pc L (zz_i x :: S) h kc ns) := by
  subst hq
  intro H locs ls hW hS hle hTL hTS hL
  exact lv_istore_n C.1.1 C.1.2.1 hd hf (zz_Lh_has hL) hi rfl (fun ls' hL' => k H locs ls' hW hS hle (zz_TL_set hTL trivial) (zz_T_t hTS) (zz_Lh_set1 (v := zz_i x) hn hL'))
theorem zz_lstore (C : zz_C p s m args c cc nL own D DA) {i : Nat} {x : Int64} (hd : decode cc pc = .ok (.lstore i, 2)) (hq : pc + 2 = q) (hi : i + 1 < nL) (hn : zz_nl L i = true) (k : (zz_Z p l e R s m args below meth c Q D DA A h0 nL q ((L.set i (some (zz_l x))).set (i + 1) none) S h kc ns)) : (zz_Z p l e R s m args below meth c Q D DA A h0 nL pc L (zz_l x :: S) h kc ns) := by
  subst hq
  intro H locs ls hW hS hle hTL hTS hL
  exact lv_lstore C.1.1 C.1.2.1 hd (zz_Lh_has hL) hi rfl (fun ls' hL' => k H locs ls' hW hS hle (zz_TL_none (zz_TL_set hTL trivial)) (zz_T_t hTS) (zz_Lh_set2 (v := zz_l x) hn hL'))
theorem zz_lstore_n (C : zz_C p s m args c cc nL own D DA) {f : Fin 4} {i : Nat} {x : Int64} (hd : decode cc pc = .ok (.lstore_n f, 1)) (hq : pc + 1 = q) (hf : (f : Nat) = i) (hi : i + 1 < nL) (hn : zz_nl L i = true) (k : (zz_Z p l e R s m args below meth c Q D DA A h0 nL q ((L.set i (some (zz_l x))).set (i + 1) none) S h kc ns)) : (zz_Z p l e R s m args below meth c Q D DA A h0 nL pc L (zz_l x :: S) h kc ns) := by
  subst hq
  intro H locs ls hW hS hle hTL hTS hL
  exact lv_lstore_n C.1.1 C.1.2.1 hd hf (zz_Lh_has hL) hi rfl (fun ls' hL' => k H locs ls' hW hS hle (zz_TL_none (zz_TL_set hTL trivial)) (zz_T_t hTS) (zz_Lh_set2 (v := zz_l x) hn hL'))
theorem zz_astore (C : zz_C p s m args c cc nL own D DA) {i t : Nat} {o : Option Nat} (hd : decode cc pc = .ok (.astore i, 2)) (hq : pc + 2 = q) (hi : i < nL) (hn : zz_nl L i = true) (k : (zz_Z p l e R s m args below meth c Q D DA A h0 nL q (L.set i (some (zz_r t o))) S h kc ns)) : (zz_Z p l e R s m args below meth c Q D DA A h0 nL pc L (zz_r t o :: S) h kc ns) := by
  subst hq
  intro H locs ls hW hS hle hTL hTS hL
  have kk := fun ls' hL' => k H locs ls' hW hS hle (zz_TL_set hTL (zz_T_h hTS)) (zz_T_t hTS) (zz_Lh_set1 (v := zz_r t o) hn hL')
  cases o with
  | none => exact lv_astoreN C.1.1 C.1.2.1 hd (zz_Lh_has hL) hi rfl kk
  | some a => exact lv_astore C.1.1 C.1.2.1 hd (zz_Lh_has hL) hi rfl kk
theorem zz_astore_n (C : zz_C p s m args c cc nL own D DA) {f : Fin 4} {i t : Nat} {o : Option Nat} (hd : decode cc pc = .ok (.astore_n f, 1)) (hq : pc + 1 = q) (hf : (f : Nat) = i) (hi : i < nL) (hn : zz_nl L i = true) (k : (zz_Z p l e R s m args below meth c Q D DA A h0 nL q (L.set i (some (zz_r t o))) S h kc ns)) : (zz_Z p l e R s m args below meth c Q D DA A h0 nL pc L (zz_r t o :: S) h kc ns) := by
  subst hq
  intro H locs ls hW hS hle hTL hTS hL
  have kk := fun ls' hL' => k H locs ls' hW hS hle (zz_TL_set hTL (zz_T_h hTS)) (zz_T_t hTS) (zz_Lh_set1 (v := zz_r t o) hn hL')
  cases o with
  | none => exact lv_astore_nN C.1.1 C.1.2.1 hd hf (zz_Lh_has hL) hi rfl kk
  | some a => exact lv_astore_n C.1.1 C.1.2.1 hd hf (zz_Lh_has hL) hi rfl kk
theorem zz_iinc (C : zz_C p s m args c cc nL own D DA) {i : Nat} {n : Int} {x y : Int32} (hd : decode cc pc = .ok (.iinc i n, 3)) (hq : pc + 3 = q) (hx : L[i]? = some (some (zz_i x))) (hy : x + Int32.ofInt n = y) (hi : i < nL) (hn : zz_nl L i = true) (k : (zz_Z p l e R s m args below meth c Q D DA A h0 nL q (L.set i (some (zz_i y))) S h kc ns)) : (zz_Z p l e R s m args below meth c Q D DA A h0 nL pc L S h kc ns) := by
  subst hq
  intro H locs ls hW hS hle hTL hTS hL
  have hm : (i, Value.int x) ∈ zz_lst L := zz_lst_mem.mpr ⟨_, hx, rfl⟩
  obtain ⟨j, hj⟩ := List.getElem?_of_mem hm
  exact lv_iinc C.1.1 C.1.2.1 hd (zz_Lh_has hL) hj hy hi rfl (fun ls' hL' => k H locs ls' hW hS hle (zz_TL_set hTL trivial) hTS (zz_Lh_set1 (v := zz_i y) hn hL'))
theorem zz_iadd (C : zz_C p s m args c cc nL own D DA) {x y z : Int32} (hd : decode cc pc = .ok (.iadd, 1)) (hq : pc + 1 = q) (hz : x + y = z) (k : (zz_Z p l e R s m args below meth c Q D DA A h0 nL q L (zz_i z :: S) h kc ns)) : (zz_Z p l e R s m args below meth c Q D DA A h0 nL pc L (zz_i y :: zz_i x :: S) h kc ns) := by
  subst hq
  subst hz
  intro H locs ls hW hS hle hTL hTS hL
  exact lv_iadd C.1.1 C.1.2.1 hd (k H locs ls hW hS hle hTL (zz_T_c trivial (zz_T_t (zz_T_t hTS))) hL)
theorem zz_isub (C : zz_C p s m args c cc nL own D DA) {x y z : Int32} (hd : decode cc pc = .ok (.isub, 1)) (hq : pc + 1 = q) (hz : x - y = z) (k : (zz_Z p l e R s m args below meth c Q D DA A h0 nL q L (zz_i z :: S) h kc ns)) : (zz_Z p l e R s m args below meth c Q D DA A h0 nL pc L (zz_i y :: zz_i x :: S) h kc ns) := by
  subst hq
  subst hz
  intro H locs ls hW hS hle hTL hTS hL
  exact lv_isub C.1.1 C.1.2.1 hd (k H locs ls hW hS hle hTL (zz_T_c trivial (zz_T_t (zz_T_t hTS))) hL)
theorem zz_imul (C : zz_C p s m args c cc nL own D DA) {x y z : Int32} (hd : decode cc pc = .ok (.imul, 1)) (hq : pc + 1 = q) (hz : x * y = z) (k : (zz_Z p l e R s m args below meth c Q D DA A h0 nL q L (zz_i z :: S) h kc ns)) : (zz_Z p l e R s m args below meth c Q D DA A h0 nL pc L (zz_i y :: zz_i x :: S) h kc ns) := by
  subst hq
  subst hz
  intro H locs ls hW hS hle hTL hTS hL
  exact lv_imul C.1.1 C.1.2.1 hd (k H locs ls hW hS hle hTL (zz_T_c trivial (zz_T_t (zz_T_t hTS))) hL)
theorem zz_iand (C : zz_C p s m args c cc nL own D DA) {x y z : Int32} (hd : decode cc pc = .ok (.iand, 1)) (hq : pc + 1 = q) (hz : x &&& y = z) (k : (zz_Z p l e R s m args below meth c Q D DA A h0 nL q L (zz_i z :: S) h kc ns)) : (zz_Z p l e R s m args below meth c Q D DA A h0 nL pc L (zz_i y :: zz_i x :: S) h kc ns) := by
  subst hq
  subst hz
  intro H locs ls hW hS hle hTL hTS hL
  exact lv_iand C.1.1 C.1.2.1 hd (k H locs ls hW hS hle hTL (zz_T_c trivial (zz_T_t (zz_T_t hTS))) hL)
theorem zz_i2l (C : zz_C p s m args c cc nL own D DA) {x : Int32} {z : Int64} (hd : decode cc pc = .ok (.i2l, 1)) (hq : pc + 1 = q) (hz : x.toInt64 = z) (k : (zz_Z p l e R s m args below meth c Q D DA A h0 nL q L (zz_l z :: S) h kc ns)) : (zz_Z p l e R s m args below meth c Q D DA A h0 nL pc L (zz_i x :: S) h kc ns) := by
  subst hq
  intro H locs ls hW hS hle hTL hTS hL
  exact lv_i2l C.1.1 C.1.2.1 hd hz (k H locs ls hW hS hle hTL (zz_T_c trivial (zz_T_t hTS)) hL)
theorem zz_lcmp (C : zz_C p s m args c cc nL own D DA) {x y : Int64} (hd : decode cc pc = .ok (.lcmp, 1)) (hq : pc + 1 = q) (k : (zz_Z p l e R s m args below meth c Q D DA A h0 nL q L (zz_i (lg_cmp x y) :: S) h kc ns)) : (zz_Z p l e R s m args below meth c Q D DA A h0 nL pc L (zz_l y :: zz_l x :: S) h kc ns) := by
  subst hq
  intro H locs ls hW hS hle hTL hTS hL
  exact W.lcmp C.1.1 C.1.2.1 hd (k H locs ls hW hS hle hTL (zz_T_c trivial (zz_T_t (zz_T_t hTS))) hL)
theorem zz_dup (C : zz_C p s m args c cc nL own D DA) {v : zz_V} (hd : decode cc pc = .ok (.dup, 1)) (hq : pc + 1 = q) (hv : zz_cat v = 1) (k : (zz_Z p l e R s m args below meth c Q D DA A h0 nL q L (v :: v :: S) h kc ns)) : (zz_Z p l e R s m args below meth c Q D DA A h0 nL pc L (v :: S) h kc ns) := by
  subst hq
  intro H locs ls hW hS hle hTL hTS hL
  exact lv_dup C.1.1 C.1.2.1 hd ((zz_cat_v v).trans hv) (k H locs ls hW hS hle hTL (zz_T_c (zz_T_h hTS) hTS) hL)
theorem zz_pop (C : zz_C p s m args c cc nL own D DA) {v : zz_V} (hd : decode cc pc = .ok (.pop, 1)) (hq : pc + 1 = q) (hv : zz_cat v = 1) (k : (zz_Z p l e R s m args below meth c Q D DA A h0 nL q L S h kc ns)) : (zz_Z p l e R s m args below meth c Q D DA A h0 nL pc L (v :: S) h kc ns) := by
  subst hq
  intro H locs ls hW hS hle hTL hTS hL
  exact lv_pop C.1.1 C.1.2.1 hd ((zz_cat_v v).trans hv) (k H locs ls hW hS hle hTL (zz_T_t hTS) hL)
theorem zz_dup_x1 (C : zz_C p s m args c cc nL own D DA) {v w : zz_V} (hd : decode cc pc = .ok (.dup_x1, 1)) (hq : pc + 1 = q) (hv : zz_cat v = 1) (hw : zz_cat w = 1) (k : (zz_Z p l e R s m args below meth c Q D DA A h0 nL q L (v :: w :: v :: S) h kc ns)) : (zz_Z p l e R s m args below meth c Q D DA A h0 nL pc L (v :: w :: S) h kc ns) := by
  subst hq
  intro H locs ls hW hS hle hTL hTS hL
  exact lv_dup_x1 C.1.1 C.1.2.1 hd ((zz_cat_v v).trans hv) ((zz_cat_v w).trans hw) (k H locs ls hW hS hle hTL (zz_T_c (zz_T_h hTS) (zz_T_c (zz_T_h (zz_T_t hTS)) (zz_T_c (zz_T_h hTS) (zz_T_t (zz_T_t hTS))))) hL)
theorem zz_dup2 (C : zz_C p s m args c cc nL own D DA) {v w : zz_V} (hd : decode cc pc = .ok (.dup2, 1)) (hq : pc + 1 = q) (hv : zz_cat v = 1) (hw : zz_cat w = 1) (k : (zz_Z p l e R s m args below meth c Q D DA A h0 nL q L (v :: w :: v :: w :: S) h kc ns)) : (zz_Z p l e R s m args below meth c Q D DA A h0 nL pc L (v :: w :: S) h kc ns) := by
  subst hq
  intro H locs ls hW hS hle hTL hTS hL
  exact lv_dup2_11 C.1.1 C.1.2.1 hd ((zz_cat_v v).trans hv) ((zz_cat_v w).trans hw) (k H locs ls hW hS hle hTL (zz_T_c (zz_T_h hTS) (zz_T_c (zz_T_h (zz_T_t hTS)) hTS)) hL)
theorem zz_icmp_eq (C : zz_C p s m args c cc nL own D DA) {x y : Int32} {off : Int} {tgt : Nat} (hd : decode cc pc = .ok (.if_icmp .eq off, 3)) (ht : (pc : Int) + off = (tgt : Int)) (hq : pc + 3 = q) (kt : x = y → (zz_Z p l e R s m args below meth c Q D DA A h0 nL tgt L S h kc ns)) (kf : ¬ x = y → (zz_Z p l e R s m args below meth c Q D DA A h0 nL q L S h kc ns)) : (zz_Z p l e R s m args below meth c Q D DA A h0 nL pc L (zz_i y :: zz_i x :: S) h kc ns) := by
  subst hq
  intro H locs ls hW hS hle hTL hTS hL
  exact lv_icmp_eq C.1.1 C.1.2.1 hd ht (fun w => kt w H locs ls hW hS hle hTL (zz_T_t (zz_T_t hTS)) hL) (fun w => kf w H locs ls hW hS hle hTL (zz_T_t (zz_T_t hTS)) hL)
theorem zz_if_eq (C : zz_C p s m args c cc nL own D DA) {x : Int32} {off : Int} {tgt : Nat} (hd : decode cc pc = .ok (.ifCond .eq off, 3)) (ht : (pc : Int) + off = (tgt : Int)) (hq : pc + 3 = q) (kt : x = 0 → (zz_Z p l e R s m args below meth c Q D DA A h0 nL tgt L S h kc ns)) (kf : ¬ x = 0 → (zz_Z p l e R s m args below meth c Q D DA A h0 nL q L S h kc ns)) : (zz_Z p l e R s m args below meth c Q D DA A h0 nL pc L (zz_i x :: S) h kc ns) := by
  subst hq
  intro H locs ls hW hS hle hTL hTS hL
  exact lv_if_eq C.1.1 C.1.2.1 hd ht (fun w => kt w H locs ls hW hS hle hTL (zz_T_t hTS) hL) (fun w => kf w H locs ls hW hS hle hTL (zz_T_t hTS) hL)
theorem zz_icmp_ne (C : zz_C p s m args c cc nL own D DA) {x y : Int32} {off : Int} {tgt : Nat} (hd : decode cc pc = .ok (.if_icmp .ne off, 3)) (ht : (pc : Int) + off = (tgt : Int)) (hq : pc + 3 = q) (kt : ¬ x = y → (zz_Z p l e R s m args below meth c Q D DA A h0 nL tgt L S h kc ns)) (kf : x = y → (zz_Z p l e R s m args below meth c Q D DA A h0 nL q L S h kc ns)) : (zz_Z p l e R s m args below meth c Q D DA A h0 nL pc L (zz_i y :: zz_i x :: S) h kc ns) := by
  subst hq
  intro H locs ls hW hS hle hTL hTS hL
  exact lv_icmp_ne C.1.1 C.1.2.1 hd ht (fun w => kt w H locs ls hW hS hle hTL (zz_T_t (zz_T_t hTS)) hL) (fun w => kf w H locs ls hW hS hle hTL (zz_T_t (zz_T_t hTS)) hL)
theorem zz_if_ne (C : zz_C p s m args c cc nL own D DA) {x : Int32} {off : Int} {tgt : Nat} (hd : decode cc pc = .ok (.ifCond .ne off, 3)) (ht : (pc : Int) + off = (tgt : Int)) (hq : pc + 3 = q) (kt : ¬ x = 0 → (zz_Z p l e R s m args below meth c Q D DA A h0 nL tgt L S h kc ns)) (kf : x = 0 → (zz_Z p l e R s m args below meth c Q D DA A h0 nL q L S h kc ns)) : (zz_Z p l e R s m args below meth c Q D DA A h0 nL pc L (zz_i x :: S) h kc ns) := by
  subst hq
  intro H locs ls hW hS hle hTL hTS hL
  exact lv_if_ne C.1.1 C.1.2.1 hd ht (fun w => kt w H locs ls hW hS hle hTL (zz_T_t hTS) hL) (fun w => kf w H locs ls hW hS hle hTL (zz_T_t hTS) hL)
theorem zz_icmp_lt (C : zz_C p s m args c cc nL own D DA) {x y : Int32} {off : Int} {tgt : Nat} (hd : decode cc pc = .ok (.if_icmp .lt off, 3)) (ht : (pc : Int) + off = (tgt : Int)) (hq : pc + 3 = q) (kt : x < y → (zz_Z p l e R s m args below meth c Q D DA A h0 nL tgt L S h kc ns)) (kf : ¬ x < y → (zz_Z p l e R s m args below meth c Q D DA A h0 nL q L S h kc ns)) : (zz_Z p l e R s m args below meth c Q D DA A h0 nL pc L (zz_i y :: zz_i x :: S) h kc ns) := by
  subst hq
  intro H locs ls hW hS hle hTL hTS hL
  exact lv_icmp_lt C.1.1 C.1.2.1 hd ht (fun w => kt w H locs ls hW hS hle hTL (zz_T_t (zz_T_t hTS)) hL) (fun w => kf w H locs ls hW hS hle hTL (zz_T_t (zz_T_t hTS)) hL)
theorem zz_if_lt (C : zz_C p s m args c cc nL own D DA) {x : Int32} {off : Int} {tgt : Nat} (hd : decode cc pc = .ok (.ifCond .lt off, 3)) (ht : (pc : Int) + off = (tgt : Int)) (hq : pc + 3 = q) (kt : x < 0 → (zz_Z p l e R s m args below meth c Q D DA A h0 nL tgt L S h kc ns)) (kf : ¬ x < 0 → (zz_Z p l e R s m args below meth c Q D DA A h0 nL q L S h kc ns)) : (zz_Z p l e R s m args below meth c Q D DA A h0 nL pc L (zz_i x :: S) h kc ns) := by
  subst hq
  intro H locs ls hW hS hle hTL hTS hL
  exact lv_if_lt C.1.1 C.1.2.1 hd ht (fun w => kt w H locs ls hW hS hle hTL (zz_T_t hTS) hL) (fun w => kf w H locs ls hW hS hle hTL (zz_T_t hTS) hL)
theorem zz_icmp_ge (C : zz_C p s m args c cc nL own D DA) {x y : Int32} {off : Int} {tgt : Nat} (hd : decode cc pc = .ok (.if_icmp .ge off, 3)) (ht : (pc : Int) + off = (tgt : Int)) (hq : pc + 3 = q) (kt : y ≤ x → (zz_Z p l e R s m args below meth c Q D DA A h0 nL tgt L S h kc ns)) (kf : ¬ y ≤ x → (zz_Z p l e R s m args below meth c Q D DA A h0 nL q L S h kc ns)) : (zz_Z p l e R s m args below meth c Q D DA A h0 nL pc L (zz_i y :: zz_i x :: S) h kc ns) := by
  subst hq
  intro H locs ls hW hS hle hTL hTS hL
  exact lv_icmp_ge C.1.1 C.1.2.1 hd ht (fun w => kt w H locs ls hW hS hle hTL (zz_T_t (zz_T_t hTS)) hL) (fun w => kf w H locs ls hW hS hle hTL (zz_T_t (zz_T_t hTS)) hL)
theorem zz_if_ge (C : zz_C p s m args c cc nL own D DA) {x : Int32} {off : Int} {tgt : Nat} (hd : decode cc pc = .ok (.ifCond .ge off, 3)) (ht : (pc : Int) + off = (tgt : Int)) (hq : pc + 3 = q) (kt : 0 ≤ x → (zz_Z p l e R s m args below meth c Q D DA A h0 nL tgt L S h kc ns)) (kf : ¬ 0 ≤ x → (zz_Z p l e R s m args below meth c Q D DA A h0 nL q L S h kc ns)) : (zz_Z p l e R s m args below meth c Q D DA A h0 nL pc L (zz_i x :: S) h kc ns) := by
  subst hq
  intro H locs ls hW hS hle hTL hTS hL
  exact lv_if_ge C.1.1 C.1.2.1 hd ht (fun w => kt w H locs ls hW hS hle hTL (zz_T_t hTS) hL) (fun w => kf w H locs ls hW hS hle hTL (zz_T_t hTS) hL)
theorem zz_icmp_gt (C : zz_C p s m args c cc nL own D DA) {x y : Int32} {off : Int} {tgt : Nat} (hd : decode cc pc = .ok (.if_icmp .gt off, 3)) (ht : (pc : Int) + off = (tgt : Int)) (hq : pc + 3 = q) (kt : y < x → (zz_Z p l e R s m args below meth c Q D DA A h0 nL tgt L S h kc ns)) (kf : ¬ y < x → (zz_Z p l e R s m args below meth c Q D DA A h0 nL q L S h kc ns)) : (zz_Z p l e R s m args below meth c Q D DA A h0 nL pc L (zz_i y :: zz_i x :: S) h kc ns) := by
  subst hq
  intro H locs ls hW hS hle hTL hTS hL
  exact lv_icmp_gt C.1.1 C.1.2.1 hd ht (fun w => kt w H locs ls hW hS hle hTL (zz_T_t (zz_T_t hTS)) hL) (fun w => kf w H locs ls hW hS hle hTL (zz_T_t (zz_T_t hTS)) hL)
theorem zz_if_gt (C : zz_C p s m args c cc nL own D DA) {x : Int32} {off : Int} {tgt : Nat} (hd : decode cc pc = .ok (.ifCond .gt off, 3)) (ht : (pc : Int) + off = (tgt : Int)) (hq : pc + 3 = q) (kt : 0 < x → (zz_Z p l e R s m args below meth c Q D DA A h0 nL tgt L S h kc ns)) (kf : ¬ 0 < x → (zz_Z p l e R s m args below meth c Q D DA A h0 nL q L S h kc ns)) : (zz_Z p l e R s m args below meth c Q D DA A h0 nL pc L (zz_i x :: S) h kc ns) := by
  subst hq
  intro H locs ls hW hS hle hTL hTS hL
  exact lv_if_gt C.1.1 C.1.2.1 hd ht (fun w => kt w H locs ls hW hS hle hTL (zz_T_t hTS) hL) (fun w => kf w H locs ls hW hS hle hTL (zz_T_t hTS) hL)
theorem zz_icmp_le (C : zz_C p s m args c cc nL own D DA) {x y : Int32} {off : Int} {tgt : Nat} (hd : decode cc pc = .ok (.if_icmp .le off, 3)) (ht : (pc : Int) + off = (tgt : Int)) (hq : pc + 3 = q) (kt : x ≤ y → (zz_Z p l e R s m args below meth c Q D DA A h0 nL tgt L S h kc ns)) (kf : ¬ x ≤ y → (zz_Z p l e R s m args below meth c Q D DA A h0 nL q L S h kc ns)) : (zz_Z p l e R s m args below meth c Q D DA A h0 nL pc L (zz_i y :: zz_i x :: S) h kc ns) := by
  subst hq
  intro H locs ls hW hS hle hTL hTS hL
  exact lv_icmp_le C.1.1 C.1.2.1 hd ht (fun w => kt w H locs ls hW hS hle hTL (zz_T_t (zz_T_t hTS)) hL) (fun w => kf w H locs ls hW hS hle hTL (zz_T_t (zz_T_t hTS)) hL)
theorem zz_if_le (C : zz_C p s m args c cc nL own D DA) {x : Int32} {off : Int} {tgt : Nat} (hd : decode cc pc = .ok (.ifCond .le off, 3)) (ht : (pc : Int) + off = (tgt : Int)) (hq : pc + 3 = q) (kt : x ≤ 0 → (zz_Z p l e R s m args below meth c Q D DA A h0 nL tgt L S h kc ns)) (kf : ¬ x ≤ 0 → (zz_Z p l e R s m args below meth c Q D DA A h0 nL q L S h kc ns)) : (zz_Z p l e R s m args below meth c Q D DA A h0 nL pc L (zz_i x :: S) h kc ns) := by
  subst hq
  intro H locs ls hW hS hle hTL hTS hL
  exact lv_if_le C.1.1 C.1.2.1 hd ht (fun w => kt w H locs ls hW hS hle hTL (zz_T_t hTS) hL) (fun w => kf w H locs ls hW hS hle hTL (zz_T_t hTS) hL)
theorem zz_acmp_eq (C : zz_C p s m args c cc nL own D DA) {ox oy : Option Nat} {tx ty : Nat} {off : Int} {tgt : Nat} (hd : decode cc pc = .ok (.if_acmp .eq off, 3)) (ht : (pc : Int) + off = (tgt : Int)) (hq : pc + 3 = q) (kt : ox = oy → (zz_Z p l e R s m args below meth c Q D DA A h0 nL tgt L S h kc ns)) (kf : ¬ ox = oy → (zz_Z p l e R s m args below meth c Q D DA A h0 nL q L S h kc ns)) : (zz_Z p l e R s m args below meth c Q D DA A h0 nL pc L (zz_r ty oy :: zz_r tx ox :: S) h kc ns) := by
  subst hq
  intro H locs ls hW hS hle hTL hTS hL
  exact lv_acmp_eq C.1.1 C.1.2.1 hd ht (fun w => kt w H locs ls hW hS hle hTL (zz_T_t (zz_T_t hTS)) hL) (fun w => kf w H locs ls hW hS hle hTL (zz_T_t (zz_T_t hTS)) hL)
theorem zz_acmp_ne (C : zz_C p s m args c cc nL own D DA) {ox oy : Option Nat} {tx ty : Nat} {off : Int} {tgt : Nat} (hd : decode cc pc = .ok (.if_acmp .ne off, 3)) (ht : (pc : Int) + off = (tgt : Int)) (hq : pc + 3 = q) (kt : ¬ ox = oy → (zz_Z p l e R s m args below meth c Q D DA A h0 nL tgt L S h kc ns)) (kf : ox = oy → (zz_Z p l e R s m args below meth c Q D DA A h0 nL q L S h kc ns)) : (zz_Z p l e R s m args below meth c Q D DA A h0 nL pc L (zz_r ty oy :: zz_r tx ox :: S) h kc ns) := by
  subst hq
  intro H locs ls hW hS hle hTL hTS hL
  exact lv_acmp_ne C.1.1 C.1.2.1 hd ht (fun w => kt w H locs ls hW hS hle hTL (zz_T_t (zz_T_t hTS)) hL) (fun w => kf w H locs ls hW hS hle hTL (zz_T_t (zz_T_t hTS)) hL)
theorem zz_ifnull (C : zz_C p s m args c cc nL own D DA) {o : Option Nat} {t : Nat} {off : Int} {tgt : Nat} (hd : decode cc pc = .ok (.ifnull off, 3)) (ht : (pc : Int) + off = (tgt : Int)) (hq : pc + 3 = q) (kt : o = none → (zz_Z p l e R s m args below meth c Q D DA A h0 nL tgt L S h kc ns)) (kf : ∀ a, o = some a → (zz_Z p l e R s m args below meth c Q D DA A h0 nL q L S h kc ns)) : (zz_Z p l e R s m args below meth c Q D DA A h0 nL pc L (zz_r t o :: S) h kc ns) := by
  subst hq
  intro H locs ls hW hS hle hTL hTS hL
  cases o with
  | none => exact lv_ifnullN C.1.1 C.1.2.1 hd ht (kt rfl H locs ls hW hS hle hTL (zz_T_t hTS) hL)
  | some a => exact lv_ifnull C.1.1 C.1.2.1 hd (kf a rfl H locs ls hW hS hle hTL (zz_T_t hTS) hL)
theorem zz_ifnonnull (C : zz_C p s m args c cc nL own D DA) {o : Option Nat} {t : Nat} {off : Int} {tgt : Nat} (hd : decode cc pc = .ok (.ifnonnull off, 3)) (ht : (pc : Int) + off = (tgt : Int)) (hq : pc + 3 = q) (kt : ∀ a, o = some a → (zz_Z p l e R s m args below meth c Q D DA A h0 nL tgt L S h kc ns)) (kf : o = none → (zz_Z p l e R s m args below meth c Q D DA A h0 nL q L S h kc ns)) : (zz_Z p l e R s m args below meth c Q D DA A h0 nL pc L (zz_r t o :: S) h kc ns) := by
  subst hq
  intro H locs ls hW hS hle hTL hTS hL
  cases o with
  | none => exact lv_ifnonnullN C.1.1 C.1.2.1 hd (kf rfl H locs ls hW hS hle hTL (zz_T_t hTS) hL)
  | some a => exact lv_ifnonnull C.1.1 C.1.2.1 hd ht (kt a rfl H locs ls hW hS hle hTL (zz_T_t hTS) hL)
theorem zz_goto (C : zz_C p s m args c cc nL own D DA) {off : Int} {tgt : Nat} (hd : decode cc pc = .ok (.goto off, 3)) (ht : (pc : Int) + off = (tgt : Int)) (k : (zz_Z p l e R s m args below meth c Q D DA A h0 nL tgt L S h kc ns)) : (zz_Z p l e R s m args below meth c Q D DA A h0 nL pc L S h kc ns) := by
  intro H locs ls hW hS hle hTL hTS hL
  exact lv_goto C.1.1 C.1.2.1 hd ht (k H locs ls hW hS hle hTL hTS hL)
theorem zz_tableOut (C : zz_C p s m args c cc nL own D DA) {dflt lo hi : Int} {offs : Array Int} {len : Nat} {x : Int32} {tgt : Nat} (hd : decode cc pc = .ok (.tableswitch dflt lo hi offs, len)) (hx : x.toInt < lo ∨ hi < x.toInt) (ht : (pc : Int) + dflt = (tgt : Int)) (k : (zz_Z p l e R s m args below meth c Q D DA A h0 nL tgt L S h kc ns)) : (zz_Z p l e R s m args below meth c Q D DA A h0 nL pc L (zz_i x :: S) h kc ns) := by
  intro H locs ls hW hS hle hTL hTS hL
  exact lv_tableOut C.1.1 C.1.2.1 hd hx ht (k H locs ls hW hS hle hTL (zz_T_t hTS) hL)
theorem zz_tableIn (C : zz_C p s m args c cc nL own D DA) {dflt lo hi : Int} {offs : Array Int} {len : Nat} {x : Int32} {off : Int} {tgt : Nat} (hd : decode cc pc = .ok (.tableswitch dflt lo hi offs, len)) (h1 : ¬ x.toInt < lo) (h2 : ¬ hi < x.toInt) (hf : offs[(x.toInt - lo).toNat]? = some off) (ht : (pc : Int) + off = (tgt : Int)) (k : (zz_Z p l e R s m args below meth c Q D DA A h0 nL tgt L S h kc ns)) : (zz_Z p l e R s m args below meth c Q D DA A h0 nL pc L (zz_i x :: S) h kc ns) := by
  intro H locs ls hW hS hle hTL hTS hL
  exact lv_tableIn C.1.1 C.1.2.1 hd h1 h2 hf ht (k H locs ls hW hS hle hTL (zz_T_t hTS) hL)
end ZR

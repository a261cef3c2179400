/-! new things, copies, Object's constructor -/
def zz_fs0 (ci : Nat) : List Value := (List.range (zz_nf ci)).map (fun k => match zz_ft ci k with
  | none => Value.int 0
  | some _ => .null)
theorem zz_fs_new (h : zz_H) (ci a : Nat) : zz_fs (zz_new h ci a) ci a = zz_fs0 ci := by
  unfold zz_fs zz_fs0
  apply List.map_congr_left
  intro k _
  unfold zz_fv
  rw [zz_fI_new, zz_fR_new, if_pos ⟨rfl, rfl⟩, if_pos ⟨rfl, rfl⟩]
  cases zz_ft ci k <;> rfl
theorem zz_le_new {h : zz_H} {ci a : Nat} (hn : zz_tg h a = none) (h9 : ci ≠ 93) : zz_le h (zz_new h ci a) := by
  refine ⟨fun b t hb => ?_, fun b n hb => ?_⟩
  · rw [zz_tg_new, if_neg]
    · exact hb
    · rintro rfl
      rw [hn] at hb
      cases hb
  · rw [zz_tg_new] at hb
    by_cases hz : b = a
    · rw [if_pos hz] at hb
      cases hb
      exact absurd rfl h9
    · rw [if_neg hz] at hb
      exact hb
theorem zz_le_newA {h : zz_H} {ty n a : Nat} (hn : zz_tg h a = none) (h9 : ty ≠ 93) : zz_le h (zz_newA h ty n a) := by
  refine ⟨fun b t hb => ?_, fun b n hb => ?_⟩
  · rw [zz_tg_newA, if_neg]
    · exact hb
    · rintro rfl
      rw [hn] at hb
      cases hb
  · rw [zz_tg_newA] at hb
    by_cases hz : b = a
    · rw [if_pos hz] at hb
      cases hb
      exact absurd rfl h9
    · rw [if_neg hz] at hb
      exact hb
theorem zz_ty_none (h : zz_H) (t : Nat) : zz_ty h (zz_r t none) := fun b hb => by cases hb
theorem zz_tyH_new {h : zz_H} {ci a : Nat} (hT : zz_tyH h) (hn : zz_tg h a = none) (h9 : ci < 90) : zz_tyH (zz_new h ci a) := by
  have hvv : ∀ v, zz_ty h v → zz_ty (zz_new h ci a) v := fun v hv => zz_ty_le (zz_le_new hn (by omega)).1 hv
  refine ⟨fun a' ci' n' k' ty h1 h2 h3 => ?_, fun a' ty n' j h1 h2 => ?_⟩
  · rw [zz_fR_new]
    by_cases hz : a' = a
    · subst hz
      rw [zz_tg_new, if_pos rfl] at h1
      cases h1
      rw [if_pos ⟨rfl, rfl⟩]
      exact zz_ty_none _ _
    · rw [if_neg (fun z => hz z.2)]
      rw [zz_tg_new, if_neg hz] at h1
      exact hvv _ (hT.1 a' ci' n' k' ty h1 h2 h3)
  · rw [zz_aR_new]
    by_cases hz : a' = a
    · subst hz
      rw [zz_tg_new, if_pos rfl] at h1
      cases h1
      omega
    · rw [zz_tg_new, if_neg hz] at h1
      exact hvv _ (hT.2 a' ty n' j h1 h2)
theorem zz_tyH_newA {h : zz_H} {t n a : Nat} (hT : zz_tyH h) (hn : zz_tg h a = none) (h9 : t ≠ 93) (h8 : 90 ≤ t) : zz_tyH (zz_newA h t n a) := by
  have hvv : ∀ v, zz_ty h v → zz_ty (zz_newA h t n a) v := fun v hv => zz_ty_le (zz_le_newA hn h9).1 hv
  refine ⟨fun a' ci' n' k' ty h1 h2 h3 => ?_, fun a' ty n' j h1 h2 => ?_⟩
  · rw [zz_fR_newA]
    by_cases hz : a' = a
    · subst hz
      rw [zz_tg_newA, if_pos rfl] at h1
      cases h1
      omega
    · rw [zz_tg_newA, if_neg hz] at h1
      exact hvv _ (hT.1 a' ci' n' k' ty h1 h2 h3)
  · rw [zz_aR_newA]
    by_cases hz : a' = a
    · rw [if_pos hz]
      exact zz_ty_none _ _
    · rw [if_neg hz]
      rw [zz_tg_newA, if_neg hz] at h1
      exact hvv _ (hT.2 a' ty n' j h1 h2)
section ZN
variable {p : Program} {l : Launch} {e : Env} {R : Room} {s : State} {m : MethodId} {args : Array Value} {below : List Frame} {meth : Method} {c : Code} {Q : State → Prop}
variable {D : va_G} {DA : Nat → ClassId} {A : Nat → Prop} {h0 h : zz_H} {nL kc ns pc q : Nat} {cc : ByteArray} {own : String} {L : List (Option zz_V)} {S : List zz_V}
theorem zz_newO (C : zz_C p s m args c cc nL own D DA) {idx ci N : Nat} {CN : String} {T : u_T} (hcl : zz_cl[ci]? = some (CN, T, N)) (hw : Cond.classLink own idx CN ∈ zz_all) (hi : Cond.instantiable CN N ∈ zz_all) (hini : Cond.initialized CN ∈ zz_all) (hd : decode cc pc = .ok (.new idx, 3)) (hq : pc + 3 = q) (hc : kc + 1 ≤ R.cells) (hs : ns + N ≤ R.slots)
    (kk : ∀ a, zz_tg h a = none → (zz_Z p l e R s m args below meth c Q D DA A h0 nL q L (zz_r ci (some a) :: S) (zz_new h ci a) (kc + 1) (ns + N))) : (zz_Z p l e R s m args below meth c Q D DA A h0 nL pc L S h kc ns) := by
  subst hq
  obtain ⟨k1, k2, k3, k4, k5, k6, k7⟩ := zz_okC ci CN T N hcl
  intro H locs ls hW hS hle hTL hTS hL
  refine va_new (fs := zz_fs0 ci) C.1.1 C.1.2.1 C.1.2.2.2.2 k5 (zz_fty ci) k3 C.1.2.2.2.1 (C.1.2.2.2.2 _ hw) (C.1.2.2.2.2 _ hi) (C.1.2.2.2.2 _ hini) C.2 (zz_toP hW) (zz_toD DA hS) hS.1 hS.2.1 hcl ?_ hc hs hd (fun a H1 hP1 hD1 hS1 => ?_)
  · intro j hj
    have k8 := k7 j hj
    have e1 : vp_V (zz_fs0 ci) j = (match zz_ft ci j with
      | none => Value.int 0
      | some _ => .null) := by
      unfold vp_V zz_fs0
      rw [List.getD_eq_getElem?_getD, List.getElem?_map, List.getElem?_range (by rw [k2]; exact hj)]
      rfl
    rw [e1]
    cases hf : zz_ft ci j with
    | none =>
      rw [hf] at k8
      rcases k8 with e2 | e2 <;> (rw [e2]; rfl)
    | some t =>
      rw [hf] at k8
      rcases k8 with ⟨n, e2⟩ | ⟨n, e2⟩ <;> (rw [e2]; rfl)
  · have hn := zz_fresh hW hS hD1
    have hlen := zz_le_new (ci := ci) hn (by omega)
    obtain ⟨w1, w2⟩ := zz_backN (h' := zz_new h ci a) (t := (ci, 0)) hW hS hP1 hD1 hS1 (by
      rw [zz_cell_obj (h := zz_new h ci a) (n := 0) (by rw [zz_tg_new, if_pos rfl]) k1, zz_fs_new]) (fun b hb => zz_cell_of (by rw [zz_tg_new, if_neg hb]) (fun c' j => by rw [zz_fI_new, if_neg (fun z => hb z.2)]) (fun c' j => by rw [zz_fR_new, if_neg (fun z => hb z.2)]) rfl rfl rfl)
      (fun b => by rw [zz_tg_new]) (by show ci ≠ 93; omega) (fun b hb => rfl) (zz_tyH_new hW.2.2 hn k1)
    exact kk a hn H1 locs ls w1 w2 (zz_le_tr hle hlen) (zz_TL_le hlen.1 hTL) (zz_T_c (fun b hb => by cases hb; exact ⟨0, by rw [zz_tg_new, if_pos rfl]⟩) (zz_T_le hlen.1 hTS)) hL
/-- what the tables say of the class of an array -/
theorem zz_newP (C : zz_C p s m args c cc nL own D DA) {at9 : ArrayType} {ty : FieldType} {t N : Nat} {x : Int32} {a0 : vp_A} (t0 : Nat) (hat : (zz_ats DA)[t0]? = some (DA t, ty)) (hprim : ∀ cA, va_RA s cA ty = (s.vm.findClass ("[" ++ ty.toString) = some cA)) (hty : newarray.typeOf at9 = ty) (hw : Cond.arrayClass ty ∈ zz_all) (ha : ∀ cA : ClassId, vp_cell cA a0 = arrV cA N (fun _ => defaultValue ty)) (hx : x = nI N) (hN : N < 2 ^ 31) (hby : N * componentBytes ty ≤ 536870912)
    (h9 : t ≠ 93) (h8 : 90 ≤ t) (hcell : ∀ h' a, zz_tg h' a = some (t, N) → zz_aI h' a = (fun _ => 0) → zz_aL h' a = (fun _ => 0) → zz_cell DA h' a = some (.inl (DA t, a0))) (hd : decode cc pc = .ok (.newarray at9, 2)) (hq : pc + 2 = q) (hc : kc + 1 ≤ R.cells) (hs : ns + N ≤ R.slots)
    (kk : ∀ a, zz_tg h a = none → (zz_Z p l e R s m args below meth c Q D DA A h0 nL q L (zz_r t (some a) :: S) (zz_newA h t N a) (kc + 1) (ns + N))) : (zz_Z p l e R s m args below meth c Q D DA A h0 nL pc L (zz_i x :: S) h kc ns) := by
  subst hq
  subst hx
  intro H locs ls hW hS hle hTL hTS hL
  refine va_newa C.1.1 C.1.2.1 (by rw [hty]; exact C.1.2.2.2.2 _ hw) hty C.2 (zz_toP hW) (zz_toD DA hS) hS.1 hS.2.1 ha (nI_pos hN) (nI_clamp hN) hby hc hs hd (fun a cA H1 hK1 hP1 hD1 hS1 => ?_)
  have hA1 : va_RA s cA ty := (hK1.2 (zz_ats DA).length (cA, ty) (by simp)).2
  have hA2 : va_RA s (DA t) ty := (C.2.2 t0 _ hat).2
  rw [hprim] at hA1 hA2
  have hcA : cA = DA t := Option.some.inj (hA1.symm.trans hA2)
  subst hcA
  have hn := zz_fresh hW hS hD1
  have hlen := zz_le_newA (ty := t) (n := N) hn h9
  obtain ⟨w1, w2⟩ := zz_backN (h' := zz_newA h t N a) (t := (t, N)) hW hS hP1 hD1 hS1 (hcell _ a (by rw [zz_tg_newA, if_pos rfl]) (by funext i; rw [zz_aI_newA, if_pos rfl]) (by funext i; rw [zz_aL_newA, if_pos rfl]))
    (fun b hb => zz_cell_of (by rw [zz_tg_newA, if_neg hb]) (fun c' j => rfl) (fun c' j => rfl) (by funext i; rw [zz_aI_newA, if_neg hb]) (by funext i; rw [zz_aR_newA, if_neg hb]) (by funext i; rw [zz_aL_newA, if_neg hb]))
    (fun b => by rw [zz_tg_newA]) h9 (fun b hb => by funext i; rw [zz_aI_newA, if_neg hb]) (zz_tyH_newA hW.2.2 hn h9 h8)
  exact kk a hn H1 locs ls w1 w2 (zz_le_tr hle hlen) (zz_TL_le hlen.1 hTL) (zz_T_c (fun b hb => by cases hb; exact ⟨N, by rw [zz_tg_newA, if_pos rfl]⟩) (zz_T_le hlen.1 (zz_T_t hTS))) hL
theorem zz_newI (C : zz_C p s m args c cc nL own D DA) {at9 : ArrayType} {N : Nat} {x : Int32} (hty : newarray.typeOf at9 = .int) (hw : Cond.arrayClass .int ∈ zz_all) (hx : x = nI N) (hN : N < 1000) (hd : decode cc pc = .ok (.newarray at9, 2)) (hq : pc + 2 = q) (hc : kc + 1 ≤ R.cells) (hs : ns + N ≤ R.slots)
    (kk : ∀ a, zz_tg h a = none → (zz_Z p l e R s m args below meth c Q D DA A h0 nL q L (zz_r 90 (some a) :: S) (zz_newA h 90 N a) (kc + 1) (ns + N))) : (zz_Z p l e R s m args below meth c Q D DA A h0 nL pc L (zz_i x :: S) h kc ns) :=
  zz_newP C (a0 := (N, .inl (fun _ => 0))) 0 rfl (fun _ => rfl) hty hw (fun _ => rfl) hx (by omega) (by show N * 4 ≤ _; omega) (by decide) (by decide) (fun h' a h1 h2 h3 => by rw [zz_cell_int h1, h2]) hd hq hc hs kk
theorem zz_newB (C : zz_C p s m args c cc nL own D DA) {at9 : ArrayType} {N : Nat} {x : Int32} (hty : newarray.typeOf at9 = .boolean) (hw : Cond.arrayClass .boolean ∈ zz_all) (hx : x = nI N) (hN : N < 1000) (hd : decode cc pc = .ok (.newarray at9, 2)) (hq : pc + 2 = q) (hc : kc + 1 ≤ R.cells) (hs : ns + N ≤ R.slots)
    (kk : ∀ a, zz_tg h a = none → (zz_Z p l e R s m args below meth c Q D DA A h0 nL q L (zz_r 91 (some a) :: S) (zz_newA h 91 N a) (kc + 1) (ns + N))) : (zz_Z p l e R s m args below meth c Q D DA A h0 nL pc L (zz_i x :: S) h kc ns) :=
  zz_newP C (a0 := (N, .inl (fun _ => 0))) 1 rfl (fun _ => rfl) hty hw (fun _ => rfl) hx (by omega) (by show N * 1 ≤ _; omega) (by decide) (by decide) (fun h' a h1 h2 h3 => by rw [zz_cell_boo h1, h2]) hd hq hc hs kk
theorem zz_newL (C : zz_C p s m args c cc nL own D DA) {at9 : ArrayType} {N : Nat} {x : Int32} (hty : newarray.typeOf at9 = .long) (hw : Cond.arrayClass .long ∈ zz_all) (hx : x = nI N) (hN : N < 1000) (hd : decode cc pc = .ok (.newarray at9, 2)) (hq : pc + 2 = q) (hc : kc + 1 ≤ R.cells) (hs : ns + N ≤ R.slots)
    (kk : ∀ a, zz_tg h a = none → (zz_Z p l e R s m args below meth c Q D DA A h0 nL q L (zz_r 92 (some a) :: S) (zz_newA h 92 N a) (kc + 1) (ns + N))) : (zz_Z p l e R s m args below meth c Q D DA A h0 nL pc L (zz_i x :: S) h kc ns) :=
  zz_newP C (a0 := (N, .inr (.inl (fun _ => 0)))) 2 rfl (fun _ => rfl) hty hw (fun _ => rfl) hx (by omega) (by show N * 8 ≤ _; omega) (by decide) (by decide) (fun h' a h1 h2 h3 => by rw [zz_cell_lon h1, h3]) hd hq hc hs kk
theorem zz_newR (C : zz_C p s m args c cc nL own D DA) {idx ci N : Nat} {CN : String} {x : Int32} (t0 : Nat) (hat : (zz_ats DA)[t0]? = some (DA (100 + ci), .object CN)) (hw : Cond.classLink own idx CN ∈ zz_all) (hw2 : Cond.arrayOver (.object CN) ∈ zz_all) (hx : x = nI N) (hN : N < 1000) (hd : decode cc pc = .ok (.anewarray idx, 3)) (hq : pc + 3 = q) (hc : kc + 1 ≤ R.cells) (hs : ns + N ≤ R.slots)
    (kk : ∀ a, zz_tg h a = none → (zz_Z p l e R s m args below meth c Q D DA A h0 nL q L (zz_r (100 + ci) (some a) :: S) (zz_newA h (100 + ci) N a) (kc + 1) (ns + N))) : (zz_Z p l e R s m args below meth c Q D DA A h0 nL pc L (zz_i x :: S) h kc ns) := by
  subst hq
  subst hx
  intro H locs ls hW hS hle hTL hTS hL
  refine va_newq C.1.1 C.1.2.1 C.1.2.2.2.1 (C.1.2.2.2.2 _ hw) (va_AO.of (C.1.2.2.2.2 _ hw2)) C.2 (zz_toP hW) (zz_toD DA hS) hS.1 hS.2.1 (nI_pos (by omega)) (nI_clamp (by omega)) (by omega) hc hs hd (fun a cA H1 hK1 hP1 hD1 hS1 => ?_)
  have hA1 : va_RA s cA (.object CN) := (hK1.2 (zz_ats DA).length (cA, .object CN) (by simp)).2
  have hA2 : va_RA s (DA (100 + ci)) (.object CN) := (C.2.2 t0 _ hat).2
  obtain ⟨_, _, _, _, _, e1⟩ := hA1
  obtain ⟨_, _, _, _, _, e2⟩ := hA2
  have hcA : cA = DA (100 + ci) := Option.some.inj (e1.symm.trans e2)
  subst hcA
  have hn := zz_fresh hW hS hD1
  have hlen := zz_le_newA (ty := 100 + ci) (n := N) hn (by omega)
  obtain ⟨w1, w2⟩ := zz_backN (h' := zz_newA h (100 + ci) N a) (t := (100 + ci, N)) hW hS hP1 hD1 hS1 (by
      rw [zz_cell_ref (h := zz_newA h (100 + ci) N a) (n := N) (ty := 100 + ci) (by rw [zz_tg_newA, if_pos rfl]) (by omega)]
      have : zz_aR (zz_newA h (100 + ci) N a) a = (fun _ => none) := by funext i; rw [zz_aR_newA, if_pos rfl]
      rw [this])
    (fun b hb => zz_cell_of (by rw [zz_tg_newA, if_neg hb]) (fun c' j => rfl) (fun c' j => rfl) (by funext i; rw [zz_aI_newA, if_neg hb]) (by funext i; rw [zz_aR_newA, if_neg hb]) (by funext i; rw [zz_aL_newA, if_neg hb]))
    (fun b => by rw [zz_tg_newA]) (by show 100 + ci ≠ 93; omega) (fun b hb => by funext i; rw [zz_aI_newA, if_neg hb]) (zz_tyH_newA hW.2.2 hn (by omega) (by omega))
  exact kk a hn H1 locs ls w1 w2 (zz_le_tr hle hlen) (zz_TL_le hlen.1 hTL) (zz_T_c (fun b hb => by cases hb; exact ⟨N, by rw [zz_tg_newA, if_pos rfl]⟩) (zz_T_le hlen.1 (zz_T_t hTS))) hL
theorem zz_objInit (C : zz_C p s m args c cc nL own D DA) {idx ci a : Nat} {o : Option Nat} (hw1 : Cond.methodLink own idx objectInit ∈ zz_all) (hw2 : Cond.instanceMethod objectInit ∈ zz_all) (hw3 : Cond.code objectInit ⟨#[0xb1]⟩ 1 none ∈ zz_all) (hd : decode cc pc = .ok (.invokespecial idx, 3)) (hq : pc + 3 = q) (ho : o = some a) (hf : 1 ≤ R.frames) (hl : 12 ≤ R.locals) (kk : (zz_Z p l e R s m args below meth c Q D DA A h0 nL q L ([]) h kc ns)) : (zz_Z p l e R s m args below meth c Q D DA A h0 nL pc L ([zz_r ci o]) h kc ns) := by
  subst hq
  subst ho
  intro H locs ls hW hS hle hTL hTS hL
  refine W.objInit C.1.1 C.1.2.1 C.1.2.2.2.1 (C.1.2.2.2.2 _ hw1) (C.1.2.2.2.2 _ hw2) (C.1.2.2.2.2 _ hw3) rfl (by rw [C.1.2.2.1]; exact hL.1) rfl hd hf (by show 2 * 0 + 0 + 12 ≤ _; omega) ?_
  exact kk H locs ls hW hS hle hTL (zz_T_t hTS) hL
theorem zz_copyI (C : zz_C p s m args c cc nL own D DA) {idx a0 a n0 n1 k : Nat} {o0 o1 : Option Nat} {x : Int32} (hw1 : Cond.methodLink own idx arraycopyName ∈ zz_all) (hw2 : Cond.native arraycopyName ∈ zz_all) (hw3 : Cond.static arraycopyName ∈ zz_all) (hw4 : Cond.initialized "java/lang/System" ∈ zz_all) (hd : decode cc pc = .ok (.invokestatic idx, 3)) (hq : pc + 3 = q) (ho0 : o0 = some a0) (ho1 : o1 = some a) (ht0 : zz_tg h a0 = some (90, n0)) (ht1 : zz_tg h a = some (90, n1)) (hx : x = nI k) (hk0 : k ≤ n0) (hk1 : k ≤ n1) (hk : k < 2 ^ 31)
    (hf : 1 ≤ R.frames) (hl : nativeFrameWords "java/lang/System" "arraycopy" 5 + 11 ≤ R.locals) (kk : (zz_Z p l e R s m args below meth c Q D DA A h0 nL q L ([]) (zz_uI h a (fun j => if j < k then zz_aI h a0 j else zz_aI h a j)) kc ns)) : (zz_Z p l e R s m args below meth c Q D DA A h0 nL pc L ([zz_i x, zz_i 0, zz_r 90 o1, zz_i 0, zz_r 90 o0]) h kc ns) := by
  subst hq
  subst ho0
  subst ho1
  subst hx
  intro H locs ls hW hS hle hTL hTS hL
  obtain ⟨q0, hq0⟩ := zz_pos hW (zz_cell_int (DA := DA) ht0)
  obtain ⟨q1, hq1⟩ := zz_pos hW (zz_cell_int (DA := DA) ht1)
  have e0 : (0 : Int32).toNatClampNeg = 0 := by decide +kernel
  have ek : (nI k).toNatClampNeg = k := nI_clamp hk
  refine va_copyi C.1.1 C.1.2.1 (by rw [C.1.2.2.1]; exact hL.1.symm) C.1.2.2.2.1 (C.1.2.2.2.2 _ hw1) (C.1.2.2.2.2 _ hw2) (C.1.2.2.2.2 _ hw3) (C.1.2.2.2.2 _ hw4) C.2 (zz_toP hW) (zz_toD DA hS) hS.1 q0 q1 0 0 hq0 hq1 rfl rfl rfl (by decide +kernel) (by decide +kernel) (nI_pos hk) (by rw [e0, ek]; omega) (by rw [e0, ek]; omega) (fun _ _ => rfl) hf (by show 0 + _ ≤ _; omega) hd (fun H1 locs1 hP1 _ hS1 => ?_)
  rw [e0, ek] at hP1
  obtain ⟨w1, w2⟩ := zz_back (h' := zz_uI h a (fun j => if j < k then zz_aI h a0 j else zz_aI h a j)) hW hS hq1 hP1 hS1 (by
    rw [zz_cell_int (h := zz_uI h a _) (n := n1) ht1]
    have : zz_aI (zz_uI h a (fun j => if j < k then zz_aI h a0 j else zz_aI h a j)) a = va_cpy (zz_aI h a0) (zz_aI h a) 0 0 k := by
      funext i
      rw [zz_aI_uI, if_pos rfl]
      by_cases hi : i < k
      · rw [if_pos hi, pk_cpy_in (Nat.zero_le _) (by omega)]
        congr 1
        omega
      · rw [if_neg hi, pk_cpy_out (Or.inr (by omega))]
    rw [this]) (fun b hb => zz_cell_of rfl (fun _ _ => rfl) (fun _ _ => rfl) (by funext i; rw [zz_aI_uI, if_neg hb]) rfl rfl) rfl (fun b n' hb => by
      funext i
      rw [zz_aI_uI, if_neg]
      rintro rfl
      rw [ht1] at hb
      cases hb) (zz_tyH_of hW.2.2 rfl rfl rfl)
  exact kk H1 locs1 ls w1 w2 hle hTL (fun _ hz => by cases hz) hL
theorem zz_copyR (C : zz_C p s m args c cc nL own D DA) {idx ci a0 a n0 n1 k N : Nat} {o0 o1 : Option Nat} {x : Int32} {CN : String} {T : u_T} (t0 : Nat) (hcl : zz_cl[ci]? = some (CN, T, N)) (hat : (zz_ats DA)[t0]? = some (DA (100 + ci), .object CN)) (hw1 : Cond.methodLink own idx arraycopyName ∈ zz_all) (hw2 : Cond.native arraycopyName ∈ zz_all) (hw3 : Cond.static arraycopyName ∈ zz_all) (hw4 : Cond.initialized "java/lang/System" ∈ zz_all) (hd : decode cc pc = .ok (.invokestatic idx, 3)) (hq : pc + 3 = q) (ho0 : o0 = some a0) (ho1 : o1 = some a) (ht0 : zz_tg h a0 = some (100 + ci, n0)) (ht1 : zz_tg h a = some (100 + ci, n1)) (hx : x = nI k) (hk0 : k ≤ n0) (hk1 : k ≤ n1) (hk : k < 2 ^ 31)
    (hf : 1 ≤ R.frames) (hl : nativeFrameWords "java/lang/System" "arraycopy" 5 + 11 ≤ R.locals) (kk : (zz_Z p l e R s m args below meth c Q D DA A h0 nL q L ([]) (zz_uR h a (fun j => if j < k then zz_aR h a0 j else zz_aR h a j)) kc ns)) : (zz_Z p l e R s m args below meth c Q D DA A h0 nL pc L ([zz_i x, zz_i 0, zz_r (100 + ci) o1, zz_i 0, zz_r (100 + ci) o0]) h kc ns) := by
  subst hq
  subst ho0
  subst ho1
  subst hx
  intro H locs ls hW hS hle hTL hTS hL
  have k1 := (zz_okC ci CN T N hcl).1
  have hty : 100 ≤ 100 + ci := by omega
  obtain ⟨q0, hq0⟩ := zz_pos hW (zz_cell_ref (DA := DA) ht0 hty)
  obtain ⟨q1, hq1⟩ := zz_pos hW (zz_cell_ref (DA := DA) ht1 hty)
  have e0 : (0 : Int32).toNatClampNeg = 0 := by decide +kernel
  have ek : (nI k).toNatClampNeg = k := nI_clamp hk
  have hkn := (C.2.1 ci _ hcl).2
  have hty8 : zz_tyH (zz_uR h a (fun j => if j < k then zz_aR h a0 j else zz_aR h a j)) := by
    have hvv : ∀ v, zz_ty h v → zz_ty (zz_uR h a (fun j => if j < k then zz_aR h a0 j else zz_aR h a j)) v := fun v hv => zz_ty_le (fun a t q => q) hv
    refine ⟨fun a' ci' n' k' ty' g1 g2 g3 => hvv _ (hW.2.2.1 a' ci' n' k' ty' g1 g2 g3), fun a' ty' n' j' g1 g2 => ?_⟩
    have g8 : zz_tg h a' = some (ty', n') := g1
    clear g1
    rw [zz_aR_uR]
    by_cases hz : a' = a
    · subst hz
      rw [if_pos rfl]
      rw [ht1] at g8
      cases g8
      by_cases hj : j' < k
      · rw [if_pos hj]
        exact hvv _ (hW.2.2.2 a0 _ n0 j' ht0 g2)
      · rw [if_neg hj]
        exact hvv _ (hW.2.2.2 a' _ n1 j' ht1 g2)
    · rw [if_neg hz]
      exact hvv _ (hW.2.2.2 a' ty' n' j' g8 g2)
  refine va_copyq (C := CN) C.1.1 C.1.2.1 (by rw [C.1.2.2.1]; exact hL.1.symm) C.1.2.2.2.1 (C.1.2.2.2.2 _ hw1) (C.1.2.2.2.2 _ hw2) (C.1.2.2.2.2 _ hw3) (C.1.2.2.2.2 _ hw4) C.2 (zz_toP hW) (zz_toD DA hS) hS.1 q0 q1 t0 t0 hq0 hq1 hat hat (by decide +kernel) (by decide +kernel) (nI_pos hk) (by rw [e0, ek]; omega) (by rw [e0, ek]; omega) (fun i hi y hy => ?_) (fun comp c9 g1 g2 => ?_) hf (by show 0 + _ ≤ _; omega) hd (fun H1 locs1 hP1 _ hS1 => ?_)
  · obtain ⟨ny, hty9⟩ := hW.2.2.2 a0 (100 + ci) n0 _ ht0 hty y hy
    have hty9 : zz_tg h y = some (ci, ny) := by
      have e9 : 100 + ci - 100 = ci := by omega
      rw [e9] at hty9
      exact hty9
    exact va_recv (q0 := 0) C.2 (zz_at1 hW (zz_cell_obj hty9 k1)) hcl rfl
  · have : c9 = comp := Option.some.inj (g2.symm.trans g1)
    subst this
    have e9 : c9 = D.1 ci := Option.some.inj (g2.symm.trans hkn.1)
    subst e9
    exact va_assign hkn
  · rw [e0, ek] at hP1
    obtain ⟨w1, w2⟩ := zz_back (h' := zz_uR h a (fun j => if j < k then zz_aR h a0 j else zz_aR h a j)) hW hS hq1 hP1 hS1 (by
      rw [zz_cell_ref (h := zz_uR h a _) (n := n1) (ty := 100 + ci) ht1 hty]
      have : zz_aR (zz_uR h a (fun j => if j < k then zz_aR h a0 j else zz_aR h a j)) a = va_cpy (zz_aR h a0) (zz_aR h a) 0 0 k := by
        funext i
        rw [zz_aR_uR, if_pos rfl]
        by_cases hi : i < k
        · rw [if_pos hi, pk_cpy_in (Nat.zero_le _) (by omega)]
          congr 1
          omega
        · rw [if_neg hi, pk_cpy_out (Or.inr (by omega))]
      rw [this]) (fun b hb => zz_cell_of rfl (fun _ _ => rfl) (fun _ _ => rfl) rfl (by funext i; rw [zz_aR_uR, if_neg hb]) rfl) rfl (fun b n' hb => rfl) hty8
    exact kk H1 locs1 ls w1 w2 hle hTL (fun _ hz => by cases hz) hL
end ZN

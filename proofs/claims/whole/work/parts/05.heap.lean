/-! fields, arrays, new things -/
/-- the field that a pool entry names: class, place, static type (none: int), final -/
def zz_GF (own : String) (idx ci k : Nat) (t : Option Nat) (fin : Bool) : Prop := ∃ (CN : String) (T : u_T) (N : Nat), zz_cl[ci]? = some (CN, T, N) ∧ k < N ∧ Cond.fieldLink own idx CN (T k).2.1 (T k).2.2.1 ∈ zz_all ∧ zz_ft ci k = t ∧ (T k).2.2.2 = fin
/-- a final field is written by its own class's constructor alone -/
def zz_fin (own : String) (ci : Nat) (meth : Method) (fin : Bool) : Prop := fin = true → meth.name = "<init>" ∧ ∀ CN T N, zz_cl[ci]? = some (CN, T, N) → CN = own
theorem zz_fs_at {h : zz_H} {ci k a : Nat} (hk : k < zz_nf ci) : (zz_fs h ci a)[k]? = some (zz_fv h ci k a) := by
  unfold zz_fs
  rw [List.getElem?_map, List.getElem?_range hk]
  rfl
theorem zz_fs_len (h : zz_H) (ci a : Nat) : (zz_fs h ci a).length = zz_nf ci := by simp [zz_fs]
theorem zz_fs_eq {h h' : zz_H} {ci a a' : Nat} (hf : ∀ k, k < zz_nf ci → zz_fv h' ci k a' = zz_fv h ci k a) : zz_fs h' ci a' = zz_fs h ci a := by
  unfold zz_fs
  apply List.map_congr_left
  intro k hk
  exact hf k (List.mem_range.mp hk)
theorem zz_fs_set {h h' : zz_H} {ci k a : Nat} {v : Value} (hk : k < zz_nf ci) (hv : zz_fv h' ci k a = v) (hf : ∀ j, j ≠ k → zz_fv h' ci j a = zz_fv h ci j a) : zz_fs h' ci a = (zz_fs h ci a).set k v := by
  apply List.ext_getElem?
  intro j
  by_cases hj : j = k
  · subst hj
    rw [List.getElem?_set_self (by rw [zz_fs_len]; exact hk), zz_fs_at hk, hv]
  · rw [List.getElem?_set_ne (Ne.symm hj)]
    by_cases hn : j < zz_nf ci
    · rw [zz_fs_at hn, zz_fs_at hn, hf j hj]
    · rw [List.getElem?_eq_none (by rw [zz_fs_len]; omega), List.getElem?_eq_none (by rw [zz_fs_len]; omega)]
theorem zz_cell_of {DA : Nat → ClassId} {h h' : zz_H} {b : Nat} (ht : zz_tg h' b = zz_tg h b) (hI : ∀ c j, zz_fI h' c j b = zz_fI h c j b) (hR : ∀ c j, zz_fR h' c j b = zz_fR h c j b) (h1 : zz_aI h' b = zz_aI h b) (h2 : zz_aR h' b = zz_aR h b) (h3 : zz_aL h' b = zz_aL h b) : zz_cell DA h' b = zz_cell DA h b := by
  have hf : ∀ ty, zz_fs h' ty b = zz_fs h ty b := fun ty => zz_fs_eq (fun k _ => by unfold zz_fv; rw [hI, hR])
  unfold zz_cell
  rw [ht, h1, h2, h3]
  simp only [hf]
theorem zz_cell_obj {DA : Nat → ClassId} {h : zz_H} {a ci n : Nat} (ht : zz_tg h a = some (ci, n)) (hc : ci < 90) : zz_cell DA h a = some (.inr (ci, zz_fs h ci a)) := by
  unfold zz_cell
  rw [ht]
  simp [hc]
theorem zz_cell_int {DA : Nat → ClassId} {h : zz_H} {a n : Nat} (ht : zz_tg h a = some (90, n)) : zz_cell DA h a = some (.inl (DA 90, n, .inl (zz_aI h a))) := by
  unfold zz_cell
  rw [ht]
  simp
theorem zz_cell_boo {DA : Nat → ClassId} {h : zz_H} {a n : Nat} (ht : zz_tg h a = some (91, n)) : zz_cell DA h a = some (.inl (DA 91, n, .inl (zz_aI h a))) := by
  unfold zz_cell
  rw [ht]
  simp
theorem zz_cell_lon {DA : Nat → ClassId} {h : zz_H} {a n : Nat} (ht : zz_tg h a = some (92, n)) : zz_cell DA h a = some (.inl (DA 92, n, .inr (.inl (zz_aL h a)))) := by
  unfold zz_cell
  rw [ht]
  simp
theorem zz_cell_ref {DA : Nat → ClassId} {h : zz_H} {a n ty : Nat} (ht : zz_tg h a = some (ty, n)) (hty : 100 ≤ ty) : zz_cell DA h a = some (.inl (DA ty, n, .inr (.inr (.inr (.inr (zz_aR h a)))))) := by
  unfold zz_cell
  rw [ht]
  simp [show ¬ ty < 90 by omega, show ¬ ty = 93 by omega, show ¬ ty = 92 by omega, show ¬ ty < 100 by omega]
theorem zz_tyH_of {h h' : zz_H} (hT : zz_tyH h) (ht : zz_tg h' = zz_tg h) (hR : zz_fR h' = zz_fR h) (hA : zz_aR h' = zz_aR h) : zz_tyH h' := by
  have hv : ∀ v, zz_ty h v → zz_ty h' v := fun v hv => zz_ty_le (fun a t q => by rw [ht]; exact q) hv
  refine ⟨fun a ci n k ty h1 h2 h3 => ?_, fun a ty n j h1 h2 => ?_⟩
  · rw [ht] at h1
    rw [hR]
    exact hv _ (hT.1 a ci n k ty h1 h2 h3)
  · rw [ht] at h1
    rw [hA]
    exact hv _ (hT.2 a ty n j h1 h2)
section ZF
variable {p : Program} {l : Launch} {e : Env} {R : Room} {s : State} {m : MethodId} {args : Array Value} {below : List Frame} {meth : Method} {c : Code} {Q : State → Prop}
variable {D : va_G} {DA : Nat → ClassId} {A : Nat → Prop} {h0 h : zz_H} {nL kc ns pc q : Nat} {cc : ByteArray} {own : String} {L : List (Option zz_V)} {S : List zz_V}
theorem zz_getI (C : zz_C p s m args c cc nL own D DA) {xv : Int32} {idx ci k a : Nat} {o : Option Nat} {fin : Bool} (hG : zz_GF own idx ci k none fin) (hd : decode cc pc = .ok (.getfield idx, 3)) (hq : pc + 3 = q) (ho : o = some a) (hv : (zz_fI h ci k a) = xv) (kk : (zz_Z p l e R s m args below meth c Q D DA A h0 nL q L (zz_i xv :: S) h kc ns)) : (zz_Z p l e R s m args below meth c Q D DA A h0 nL pc L (zz_r ci o :: S) h kc ns) := by
  subst hv
  subst hq
  subst ho
  obtain ⟨CN, T, N, hcl, hk, hw, hft, -⟩ := hG
  obtain ⟨k1, k2, -, -, k5, k6, -⟩ := zz_okC ci CN T N hcl
  intro H locs ls hW hS hle hTL hTS hL
  obtain ⟨n, ht⟩ := (zz_T_h hTS) a rfl
  have hv : (zz_fs h ci a)[k]? = some (.int (zz_fI h ci k a)) := by
    rw [zz_fs_at (by rw [k2]; exact hk)]
    unfold zz_fv
    rw [hft]
  exact va_get C.1.1 C.1.2.1 C.1.2.2.2.2 k5 C.1.2.2.2.1 C.2 (zz_at1 hW (zz_cell_obj ht k1)) 0 rfl hcl k hk (C.1.2.2.2.2 _ hw) (fun x hx => by rw [k6 k hk] at hx; exact hx) hv hd (kk H locs ls hW hS hle hTL (zz_T_c trivial (zz_T_t hTS)) hL)
theorem zz_getR (C : zz_C p s m args c cc nL own D DA) {xv : Option Nat} {idx ci k a t : Nat} {o : Option Nat} {fin : Bool} (hG : zz_GF own idx ci k (some t) fin) (hd : decode cc pc = .ok (.getfield idx, 3)) (hq : pc + 3 = q) (ho : o = some a) (hv : (zz_fR h ci k a) = xv) (kk : (zz_Z p l e R s m args below meth c Q D DA A h0 nL q L (zz_r t xv :: S) h kc ns)) : (zz_Z p l e R s m args below meth c Q D DA A h0 nL pc L (zz_r ci o :: S) h kc ns) := by
  subst hv
  subst hq
  subst ho
  obtain ⟨CN, T, N, hcl, hk, hw, hft, -⟩ := hG
  obtain ⟨k1, k2, -, -, k5, k6, -⟩ := zz_okC ci CN T N hcl
  intro H locs ls hW hS hle hTL hTS hL
  obtain ⟨n, ht⟩ := (zz_T_h hTS) a rfl
  have hv : (zz_fs h ci a)[k]? = some (va_rf (zz_fR h ci k a)) := by
    rw [zz_fs_at (by rw [k2]; exact hk)]
    unfold zz_fv
    rw [hft]
  exact va_get C.1.1 C.1.2.1 C.1.2.2.2.2 k5 C.1.2.2.2.1 C.2 (zz_at1 hW (zz_cell_obj ht k1)) 0 rfl hcl k hk (C.1.2.2.2.2 _ hw) (fun x hx => by rw [k6 k hk] at hx; exact hx) hv hd (kk H locs ls hW hS hle hTL (zz_T_c (hW.2.2.1 a ci n k t ht k1 hft) (zz_T_t hTS)) hL)
/-- a write of a field, whatever its kind -/
theorem zz_put0 (C : zz_C p s m args c cc nL own D DA) {idx ci k a : Nat} {h' : zz_H} {v : Value} {t : Option Nat} {fin : Bool} (hG : zz_GF own idx ci k t fin) (hin : zz_fin own ci meth fin) (hd : decode cc pc = .ok (.putfield idx, 3))
    (hn : narrow (zz_fty ci k) v = v) (hfit : fits (zz_fty ci k) v = true) (hv : zz_fv h' ci k a = v) (hf : ∀ j, j ≠ k → zz_fv h' ci j a = zz_fv h ci j a) (ho : ∀ b, b ≠ a → zz_cell DA h' b = zz_cell DA h b) (htg : zz_tg h' = zz_tg h) (h93 : zz_aI h' = zz_aI h) (hty : zz_tyH h → zz_tyH h')
    {H : Heap} {locs : List Loc} {ls : Array Slot} {rest : List Value} {n : Nat} (ht : zz_tg h a = some (ci, n)) (hW : zz_W D DA s h H) (hS : zz_S A s.heap h H locs)
    (kk : ∀ H1 locs1, zz_W D DA s h' H1 → zz_S A s.heap h' H1 locs1 → W p l e R s m args below meth c H1 locs1 kc ns Q (F0 m (pc + 3) ls rest)) : W p l e R s m args below meth c H locs kc ns Q (F0 m pc ls (v :: .ref a :: rest)) := by
  obtain ⟨CN, T, N, hcl, hk, hw, hft, hfin⟩ := hG
  obtain ⟨k1, k2, k3, k4, k5, k6, k7⟩ := zz_okC ci CN T N hcl
  have hcell := zz_cell_obj (DA := DA) ht k1
  obtain ⟨q0, hq0⟩ := zz_pos hW hcell
  have hcell' : zz_cell DA h' a = some (.inr (ci, (zz_fs h ci a).set k v)) := by
    rw [zz_cell_obj (h := h') (by rw [htg]; exact ht) k1, zz_fs_set (by rw [k2]; exact hk) hv hf]
  have fin' : ∀ (H1 : Heap) (locs1 : List Loc), va_P D zz_cl ((zz_ws DA h H.size).set q0 (a, .inr (ci, (zz_fs h ci a).set k v))) H1 → va_D A ((zz_ws DA h H.size).set q0 (a, .inr (ci, (zz_fs h ci a).set k v))) → va_S A s.heap H1 locs1 → W p l e R s m args below meth c H1 locs1 kc ns Q (F0 m (pc + 3) ls rest) := by
    intro H1 locs1 hP1 _ hS1
    obtain ⟨w1, w2⟩ := zz_back hW hS hq0 hP1 hS1 hcell' ho htg (fun b n _ => by rw [h93]) (hty hW.2.2)
    exact kk H1 locs1 w1 w2
  have hl : k < (zz_fs h ci a).length := by rw [zz_fs_len, k2]; exact hk
  have hsame : ∀ x, s.fieldFound? (T k).1 (T k).2.1 (T k).2.2.1 = some x → s.fieldFound? CN (T k).2.1 (T k).2.2.1 = some x := fun x hx => by rw [k6 k hk] at hx; exact hx
  cases fin with
  | false => exact va_put C.1.1 C.1.2.1 C.1.2.2.2.2 k5 (zz_fty ci) k3 k4 C.1.2.2.2.1 C.2 (zz_toP hW) (zz_toD DA hS) hS.1 q0 hq0 hcl k hk (C.1.2.2.2.2 _ hw) hsame hfin (k3 k hk) hn hfit hl hd fin'
  | true => exact va_putF C.1.1 C.1.2.1 C.1.2.2.2.2 k5 (zz_fty ci) k3 k4 C.1.2.2.2.1 C.2 (zz_toP hW) (zz_toD DA hS) hS.1 q0 hq0 hcl k hk (C.1.2.2.2.2 _ hw) hsame hfin (hin rfl).1 ((k6 k hk).trans ((hin rfl).2 _ _ _ hcl)) (k3 k hk) hn hfit hl hd fin'
theorem zz_putI (C : zz_C p s m args c cc nL own D DA) {idx ci k a : Nat} {o : Option Nat} {x : Int32} {fin : Bool} (hG : zz_GF own idx ci k none fin) (hin : zz_fin own ci meth fin) (hb : zz_fty ci k = .boolean → x = 0 ∨ x = 1) (hd : decode cc pc = .ok (.putfield idx, 3)) (hq : pc + 3 = q) (ho : o = some a) (kk : (zz_Z p l e R s m args below meth c Q D DA A h0 nL q L S (zz_pI h ci k a x) kc ns)) : (zz_Z p l e R s m args below meth c Q D DA A h0 nL pc L (zz_i x :: zz_r ci o :: S) h kc ns) := by
  subst hq
  subst ho
  intro H locs ls hW hS hle hTL hTS hL
  obtain ⟨n, ht⟩ := (zz_T_h (zz_T_t hTS)) a rfl
  have hG' := hG
  obtain ⟨CN, T, N, hcl, hk, hw, hft, hfin⟩ := hG'
  obtain ⟨k1, k2, k3, k4, k5, k6, k7⟩ := zz_okC ci CN T N hcl
  have k8 := k7 k hk
  rw [hft] at k8
  have hnf : narrow (zz_fty ci k) (.int x) = .int x ∧ fits (zz_fty ci k) (.int x) = true := by
    rcases k8 with e1 | e1
    · rw [e1]; exact ⟨rfl, rfl⟩
    · rcases hb e1 with rfl | rfl <;> (rw [e1]; exact ⟨by decide +kernel, by decide +kernel⟩)
  refine zz_put0 (h := h) (h' := zz_pI h ci k a x) (v := .int x) C hG hin hd hnf.1 hnf.2 ?_ ?_ ?_ rfl rfl (fun hT => zz_tyH_of hT rfl rfl rfl) ht hW hS (fun H1 locs1 w1 w2 => kk H1 locs1 ls w1 w2 hle hTL (zz_T_t (zz_T_t hTS)) hL)
  · unfold zz_fv
    rw [hft, zz_fI_pI, if_pos ⟨rfl, rfl, rfl⟩]
  · intro j hj
    unfold zz_fv
    rw [zz_fR_pI, zz_fI_pI, if_neg (fun z => hj z.2.1)]
  · intro b hb
    exact zz_cell_of rfl (fun c' j => by rw [zz_fI_pI, if_neg (fun z => hb z.2.2)]) (fun _ _ => rfl) rfl rfl rfl
theorem zz_tyH_pR {ci k a t n : Nat} {o : Option Nat} (hft : zz_ft ci k = some t) (hT : zz_tyH h) (hv : zz_ty h (zz_r t o)) : zz_tyH (zz_pR h ci k a o) := by
  have hvv : ∀ v, zz_ty h v → zz_ty (zz_pR h ci k a o) v := fun v hv => zz_ty_le (fun a t q => q) hv
  refine ⟨fun a' ci' n' k' ty h1 h2 h3 => ?_, fun a' ty n' j h1 h2 => hvv _ (hT.2 a' ty n' j h1 h2)⟩
  rw [zz_fR_pR]
  by_cases hz : ci' = ci ∧ k' = k ∧ a' = a
  · rw [if_pos hz]
    obtain ⟨rfl, rfl, rfl⟩ := hz
    rw [hft] at h3
    cases h3
    exact hvv _ hv
  · rw [if_neg hz]
    exact hvv _ (hT.1 a' ci' n' k' ty h1 h2 h3)
theorem zz_putR (C : zz_C p s m args c cc nL own D DA) {idx ci k a t : Nat} {o x : Option Nat} {fin : Bool} (hG : zz_GF own idx ci k (some t) fin) (hin : zz_fin own ci meth fin) (hd : decode cc pc = .ok (.putfield idx, 3)) (hq : pc + 3 = q) (ho : o = some a) (kk : (zz_Z p l e R s m args below meth c Q D DA A h0 nL q L S (zz_pR h ci k a x) kc ns)) : (zz_Z p l e R s m args below meth c Q D DA A h0 nL pc L (zz_r t x :: zz_r ci o :: S) h kc ns) := by
  subst hq
  subst ho
  intro H locs ls hW hS hle hTL hTS hL
  obtain ⟨n, ht⟩ := (zz_T_h (zz_T_t hTS)) a rfl
  have hG' := hG
  obtain ⟨CN, T, N, hcl, hk, hw, hft, hfin⟩ := hG'
  obtain ⟨k1, k2, k3, k4, k5, k6, k7⟩ := zz_okC ci CN T N hcl
  have k8 := k7 k hk
  rw [hft] at k8
  have hnf : narrow (zz_fty ci k) (va_rf x) = va_rf x ∧ fits (zz_fty ci k) (va_rf x) = true := by
    rcases k8 with ⟨n, e1⟩ | ⟨n, e1⟩ <;> (rw [e1]; cases x <;> exact ⟨rfl, rfl⟩)
  refine zz_put0 (h := h) (h' := zz_pR h ci k a x) (v := va_rf x) C hG hin hd hnf.1 hnf.2 ?_ ?_ ?_ rfl rfl (fun hT => zz_tyH_pR (n := n) hft hT (zz_T_h hTS)) ht hW hS (fun H1 locs1 w1 w2 => kk H1 locs1 ls w1 w2 hle hTL (zz_T_t (zz_T_t hTS)) hL)
  · unfold zz_fv
    rw [hft]
    show va_rf (zz_fR (zz_pR h ci k a x) ci k a) = va_rf x
    rw [zz_fR_pR, if_pos ⟨rfl, rfl, rfl⟩]
  · intro j hj
    unfold zz_fv
    rw [zz_fI_pR, zz_fR_pR, if_neg (fun z => hj z.2.1)]
  · intro b hb
    exact zz_cell_of rfl (fun _ _ => rfl) (fun c' j => by rw [zz_fR_pR, if_neg (fun z => hb z.2.2)]) rfl rfl rfl
theorem zz_iaload (C : zz_C p s m args c cc nL own D DA) {xv : Int32} {a n j : Nat} {o : Option Nat} {x : Int32} (hd : decode cc pc = .ok (.iaload, 1)) (hq : pc + 1 = q) (ho : o = some a) (ht : zz_tg h a = some (90, n)) (hx : x = nI j) (hj : j < n) (hn : n < 2 ^ 31) (hv : (zz_aI h a j) = xv) (kk : (zz_Z p l e R s m args below meth c Q D DA A h0 nL q L (zz_i xv :: S) h kc ns)) : (zz_Z p l e R s m args below meth c Q D DA A h0 nL pc L (zz_i x :: zz_r 90 o :: S) h kc ns) := by
  subst hv
  subst hq
  subst ho
  subst hx
  intro H locs ls hW hS hle hTL hTS hL
  refine va_iald C.1.1 C.1.2.1 C.2 (zz_at1 hW (zz_cell_int ht)) 0 0 rfl rfl (vp_in_nI hj hn) hd ?_
  rw [nI_clamp (by omega)]
  exact kk H locs ls hW hS hle hTL (zz_T_c trivial (zz_T_t (zz_T_t hTS))) hL
theorem zz_baload (C : zz_C p s m args c cc nL own D DA) {xv : Int32} {a n j : Nat} {o : Option Nat} {x : Int32} (hd : decode cc pc = .ok (.baload, 1)) (hq : pc + 1 = q) (ho : o = some a) (ht : zz_tg h a = some (91, n)) (hx : x = nI j) (hj : j < n) (hn : n < 2 ^ 31) (hv : (zz_aI h a j) = xv) (kk : (zz_Z p l e R s m args below meth c Q D DA A h0 nL q L (zz_i xv :: S) h kc ns)) : (zz_Z p l e R s m args below meth c Q D DA A h0 nL pc L (zz_i x :: zz_r 91 o :: S) h kc ns) := by
  subst hv
  subst hq
  subst ho
  subst hx
  intro H locs ls hW hS hle hTL hTS hL
  refine va_zald C.1.1 C.1.2.1 C.2 (zz_at1 hW (zz_cell_boo ht)) 0 1 rfl rfl (vp_in_nI hj hn) hd ?_
  rw [nI_clamp (by omega)]
  exact kk H locs ls hW hS hle hTL (zz_T_c trivial (zz_T_t (zz_T_t hTS))) hL
theorem zz_laload (C : zz_C p s m args c cc nL own D DA) {xv : Int64} {a n j : Nat} {o : Option Nat} {x : Int32} (hd : decode cc pc = .ok (.laload, 1)) (hq : pc + 1 = q) (ho : o = some a) (ht : zz_tg h a = some (92, n)) (hx : x = nI j) (hj : j < n) (hn : n < 2 ^ 31) (hv : (zz_aL h a j) = xv) (kk : (zz_Z p l e R s m args below meth c Q D DA A h0 nL q L (zz_l xv :: S) h kc ns)) : (zz_Z p l e R s m args below meth c Q D DA A h0 nL pc L (zz_i x :: zz_r 92 o :: S) h kc ns) := by
  subst hv
  subst hq
  subst ho
  subst hx
  intro H locs ls hW hS hle hTL hTS hL
  refine va_lald C.1.1 C.1.2.1 C.2 (zz_at1 hW (zz_cell_lon ht)) 0 2 rfl rfl (vp_in_nI hj hn) hd ?_
  rw [nI_clamp (by omega)]
  exact kk H locs ls hW hS hle hTL (zz_T_c trivial (zz_T_t (zz_T_t hTS))) hL
theorem zz_aaload (C : zz_C p s m args c cc nL own D DA) {xv : Option Nat} {a n j ty : Nat} {o : Option Nat} {x : Int32} {CN : String} (t0 : Nat) (hat : (zz_ats DA)[t0]? = some (DA ty, .object CN)) (hty : 100 ≤ ty) (hd : decode cc pc = .ok (.aaload, 1)) (hq : pc + 1 = q) (ho : o = some a) (ht : zz_tg h a = some (ty, n)) (hx : x = nI j) (hj : j < n) (hn : n < 2 ^ 31) (hv : (zz_aR h a j) = xv) (kk : (zz_Z p l e R s m args below meth c Q D DA A h0 nL q L (zz_r (ty - 100) xv :: S) h kc ns)) : (zz_Z p l e R s m args below meth c Q D DA A h0 nL pc L (zz_i x :: zz_r ty o :: S) h kc ns) := by
  subst hv
  subst hq
  subst ho
  subst hx
  intro H locs ls hW hS hle hTL hTS hL
  refine va_aldq C.1.1 C.1.2.1 C.2 (zz_at1 hW (zz_cell_ref ht hty)) 0 t0 rfl hat (vp_in_nI hj hn) hd ?_
  rw [nI_clamp (by omega)]
  exact kk H locs ls hW hS hle hTL (zz_T_c (hW.2.2.2 a ty n j ht hty) (zz_T_t (zz_T_t hTS))) hL
/-- the script, which nobody writes -/
theorem zz_sload (C : zz_C p s m args c cc nL own D DA) {xv : Int32} {a n j : Nat} {o : Option Nat} {x : Int32} (hd : decode cc pc = .ok (.iaload, 1)) (hq : pc + 1 = q) (ho : o = some a) (ht : zz_tg h a = some (93, n)) (hx : x = nI j) (hj : j < n) (hn : n < 2 ^ 31) (hv : (zz_aI h a j) = xv) (kk : (zz_Z p l e R s m args below meth c Q D DA A h0 nL q L (zz_i xv :: S) h kc ns)) : (zz_Z p l e R s m args below meth c Q D DA A h0 nL pc L (zz_i x :: zz_r 93 o :: S) h kc ns) := by
  subst hv
  subst hq
  subst ho
  subst hx
  intro H locs ls hW hS hle hTL hTS hL
  obtain ⟨scr, h1, h2, h3, h4, h5⟩ := hW.2.1 a n ht
  have hc : (nI j).toNatClampNeg = j := nI_clamp (by omega)
  exact W.iald (v := .int (zz_aI h a j)) C.1.1 C.1.2.1 h1 h2 h3 (by rw [h4]; exact vp_in_nI hj hn) (by rw [hc]; exact h5 j hj) rfl rfl hd (kk H locs ls hW hS hle hTL (zz_T_c trivial (zz_T_t (zz_T_t hTS))) hL)
theorem zz_slen (C : zz_C p s m args c cc nL own D DA) {a n : Nat} {o : Option Nat} (hd : decode cc pc = .ok (.arraylength, 1)) (hq : pc + 1 = q) (ho : o = some a) (ht : zz_tg h a = some (93, n)) (kk : (zz_Z p l e R s m args below meth c Q D DA A h0 nL q L (zz_i (nI n) :: S) h kc ns)) : (zz_Z p l e R s m args below meth c Q D DA A h0 nL pc L (zz_r 93 o :: S) h kc ns) := by
  subst hq
  subst ho
  intro H locs ls hW hS hle hTL hTS hL
  obtain ⟨scr, h1, h2, h3, h4, h5⟩ := hW.2.1 a n ht
  exact W.alen (n := nI n) C.1.1 C.1.2.1 h1 h2 (by rw [h4] <;> rfl) rfl rfl hd (kk H locs ls hW hS hle hTL (zz_T_c trivial (zz_T_t hTS)) hL)
theorem zz_iastore (C : zz_C p s m args c cc nL own D DA) {a n j : Nat} {o : Option Nat} {x y : Int32} (hd : decode cc pc = .ok (.iastore, 1)) (hq : pc + 1 = q) (ho : o = some a) (ht : zz_tg h a = some (90, n)) (hx : x = nI j) (hj : j < n) (hn : n < 2 ^ 31) (kk : (zz_Z p l e R s m args below meth c Q D DA A h0 nL q L S (zz_sI h a j y) kc ns)) : (zz_Z p l e R s m args below meth c Q D DA A h0 nL pc L (zz_i y :: zz_i x :: zz_r 90 o :: S) h kc ns) := by
  subst hq
  subst ho
  subst hx
  intro H locs ls hW hS hle hTL hTS hL
  have hcell := zz_cell_int (DA := DA) ht
  obtain ⟨q0, hq0⟩ := zz_pos hW hcell
  refine va_iast C.1.1 C.1.2.1 C.2 (zz_toP hW) (zz_toD DA hS) hS.1 q0 0 hq0 rfl (vp_in_nI hj hn) hd (fun H1 locs1 hP1 _ hS1 => ?_)
  rw [nI_clamp (by omega)] at hP1
  obtain ⟨w1, w2⟩ := zz_back (h' := zz_sI h a j y) hW hS hq0 hP1 hS1 (by
    rw [zz_cell_int (h := zz_sI h a j y) (n := n) ht]
    have : zz_aI (zz_sI h a j y) a = upd (zz_aI h a) j y := by
      funext i
      rw [zz_aI_sI]
      simp [upd]
    rw [this]) (fun b hb => zz_cell_of rfl (fun _ _ => rfl) (fun _ _ => rfl) (by funext i; rw [zz_aI_sI, if_neg (fun z => hb z.1)]) rfl rfl) rfl (fun b n' hb => by
      funext i
      rw [zz_aI_sI, if_neg]
      rintro ⟨rfl, -⟩
      rw [ht] at hb
      cases hb) (zz_tyH_of hW.2.2 rfl rfl rfl)
  exact kk H1 locs1 ls w1 w2 hle hTL (zz_T_t (zz_T_t (zz_T_t hTS))) hL
theorem zz_bastore (C : zz_C p s m args c cc nL own D DA) {a n j : Nat} {o : Option Nat} {x y : Int32} (hd : decode cc pc = .ok (.bastore, 1)) (hq : pc + 1 = q) (ho : o = some a) (ht : zz_tg h a = some (91, n)) (hx : x = nI j) (hj : j < n) (hn : n < 2 ^ 31) (hy : y = 0 ∨ y = 1) (kk : (zz_Z p l e R s m args below meth c Q D DA A h0 nL q L S (zz_sI h a j y) kc ns)) : (zz_Z p l e R s m args below meth c Q D DA A h0 nL pc L (zz_i y :: zz_i x :: zz_r 91 o :: S) h kc ns) := by
  subst hq
  subst ho
  subst hx
  intro H locs ls hW hS hle hTL hTS hL
  have hcell := zz_cell_boo (DA := DA) ht
  obtain ⟨q0, hq0⟩ := zz_pos hW hcell
  have hnar : vp_nar .boolean y = y := by rcases hy with rfl | rfl <;> decide +kernel
  refine va_zast C.1.1 C.1.2.1 C.2 (zz_toP hW) (zz_toD DA hS) hS.1 q0 1 hq0 rfl (vp_in_nI hj hn) hd (fun H1 locs1 hP1 _ hS1 => ?_)
  rw [nI_clamp (by omega), hnar] at hP1
  obtain ⟨w1, w2⟩ := zz_back (h' := zz_sI h a j y) hW hS hq0 hP1 hS1 (by
    rw [zz_cell_boo (h := zz_sI h a j y) (n := n) ht]
    have : zz_aI (zz_sI h a j y) a = upd (zz_aI h a) j y := by
      funext i
      rw [zz_aI_sI]
      simp [upd]
    rw [this]) (fun b hb => zz_cell_of rfl (fun _ _ => rfl) (fun _ _ => rfl) (by funext i; rw [zz_aI_sI, if_neg (fun z => hb z.1)]) rfl rfl) rfl (fun b n' hb => by
      funext i
      rw [zz_aI_sI, if_neg]
      rintro ⟨rfl, -⟩
      rw [ht] at hb
      cases hb) (zz_tyH_of hW.2.2 rfl rfl rfl)
  exact kk H1 locs1 ls w1 w2 hle hTL (zz_T_t (zz_T_t (zz_T_t hTS))) hL
theorem zz_lastore (C : zz_C p s m args c cc nL own D DA) {a n j : Nat} {o : Option Nat} {x : Int32} {y : Int64} (hd : decode cc pc = .ok (.lastore, 1)) (hq : pc + 1 = q) (ho : o = some a) (ht : zz_tg h a = some (92, n)) (hx : x = nI j) (hj : j < n) (hn : n < 2 ^ 31) (kk : (zz_Z p l e R s m args below meth c Q D DA A h0 nL q L S (zz_sL h a j y) kc ns)) : (zz_Z p l e R s m args below meth c Q D DA A h0 nL pc L (zz_l y :: zz_i x :: zz_r 92 o :: S) h kc ns) := by
  subst hq
  subst ho
  subst hx
  intro H locs ls hW hS hle hTL hTS hL
  have hcell := zz_cell_lon (DA := DA) ht
  obtain ⟨q0, hq0⟩ := zz_pos hW hcell
  refine va_last C.1.1 C.1.2.1 C.2 (zz_toP hW) (zz_toD DA hS) hS.1 q0 2 hq0 rfl (vp_in_nI hj hn) hd (fun H1 locs1 hP1 _ hS1 => ?_)
  rw [nI_clamp (by omega)] at hP1
  obtain ⟨w1, w2⟩ := zz_back (h' := zz_sL h a j y) hW hS hq0 hP1 hS1 (by
    rw [zz_cell_lon (h := zz_sL h a j y) (n := n) ht]
    have : zz_aL (zz_sL h a j y) a = vp_updL (zz_aL h a) j y := by
      funext i
      rw [zz_aL_sL]
      simp [vp_updL]
    rw [this]) (fun b hb => zz_cell_of rfl (fun _ _ => rfl) (fun _ _ => rfl) rfl rfl (by funext i; rw [zz_aL_sL, if_neg (fun z => hb z.1)])) rfl (fun b n' hb => rfl) (zz_tyH_of hW.2.2 rfl rfl rfl)
  exact kk H1 locs1 ls w1 w2 hle hTL (zz_T_t (zz_T_t (zz_T_t hTS))) hL
theorem zz_tyH_sR {a j ty n : Nat} {o : Option Nat} (ht : zz_tg h a = some (ty, n)) (hT : zz_tyH h) (hv : zz_ty h (zz_r (ty - 100) o)) : zz_tyH (zz_sR h a j o) := by
  have hvv : ∀ v, zz_ty h v → zz_ty (zz_sR h a j o) v := fun v hv => zz_ty_le (fun a t q => q) hv
  refine ⟨fun a' ci' n' k' ty' h1 h2 h3 => hvv _ (hT.1 a' ci' n' k' ty' h1 h2 h3), fun a' ty' n' j' h1 h2 => ?_⟩
  rw [zz_aR_sR]
  by_cases hz : a' = a ∧ j' = j
  · rw [if_pos hz]
    obtain ⟨rfl, rfl⟩ := hz
    rw [show zz_tg (zz_sR h a' j' o) a' = zz_tg h a' from rfl, ht] at h1
    cases h1
    exact hvv _ hv
  · rw [if_neg hz]
    exact hvv _ (hT.2 a' ty' n' j' h1 h2)
theorem zz_aastore (C : zz_C p s m args c cc nL own D DA) {a n j ci : Nat} {o y : Option Nat} {x : Int32} {CN : String} {T : u_T} {N : Nat} (t0 : Nat) (hcl : zz_cl[ci]? = some (CN, T, N)) (hat : (zz_ats DA)[t0]? = some (DA (100 + ci), .object CN)) (hd : decode cc pc = .ok (.aastore, 1)) (hq : pc + 1 = q) (ho : o = some a) (ht : zz_tg h a = some (100 + ci, n)) (hx : x = nI j) (hj : j < n) (hn : n < 2 ^ 31) (kk : (zz_Z p l e R s m args below meth c Q D DA A h0 nL q L S (zz_sR h a j y) kc ns)) : (zz_Z p l e R s m args below meth c Q D DA A h0 nL pc L (zz_r ci y :: zz_i x :: zz_r (100 + ci) o :: S) h kc ns) := by
  subst hq
  subst ho
  subst hx
  intro H locs ls hW hS hle hTL hTS hL
  have k1 := (zz_okC ci CN T N hcl).1
  have hcell := zz_cell_ref (DA := DA) ht (by omega)
  obtain ⟨q0, hq0⟩ := zz_pos hW hcell
  have hvy : zz_ty h (zz_r (100 + ci - 100) y) := by
    rw [show 100 + ci - 100 = ci by omega]
    exact zz_T_h hTS
  have fin' : ∀ (H1 : Heap) (locs1 : List Loc), va_P D zz_cl ((zz_ws DA h H.size).set q0 (a, .inl (DA (100 + ci), n, .inr (.inr (.inr (.inr (va_up (zz_aR h a) j y))))))) H1 → va_S A s.heap H1 locs1 → W p l e R s m args below meth c H1 locs1 kc ns Q (F0 m (pc + 1) ls (S.map zz_v)) := by
    intro H1 locs1 hP1 hS1
    obtain ⟨w1, w2⟩ := zz_back (h' := zz_sR h a j y) hW hS hq0 hP1 hS1 (by
      rw [zz_cell_ref (h := zz_sR h a j y) (n := n) (ty := 100 + ci) ht (by omega)]
      have : zz_aR (zz_sR h a j y) a = va_up (zz_aR h a) j y := by
        funext i
        rw [zz_aR_sR]
        simp [va_up]
      rw [this]) (fun b hb => zz_cell_of rfl (fun _ _ => rfl) (fun _ _ => rfl) rfl (by funext i; rw [zz_aR_sR, if_neg (fun z => hb z.1)]) rfl) rfl (fun b n' hb => rfl) (zz_tyH_sR ht hW.2.2 hvy)
    exact kk H1 locs1 ls w1 w2 hle hTL (zz_T_t (zz_T_t (zz_T_t hTS))) hL
  cases y with
  | none =>
    refine va_astqN C.1.1 C.1.2.1 C.2 (zz_toP hW) (zz_toD DA hS) hS.1 q0 t0 hq0 hat (vp_in_nI hj hn) hd (fun H1 locs1 hP1 _ hS1 => ?_)
    rw [nI_clamp (by omega)] at hP1
    exact fin' H1 locs1 hP1 hS1
  | some v =>
    obtain ⟨nv, htv⟩ := (zz_T_h hTS) v rfl
    obtain ⟨qk, hqk⟩ := zz_pos hW (zz_cell_obj (DA := DA) htv k1)
    refine va_astq C.1.1 C.1.2.1 C.2 (zz_toP hW) (zz_toD DA hS) hS.1 q0 t0 qk ci (r := (CN, T, N)) hq0 hat hqk hcl (vp_in_nI hj hn) hd (fun H1 locs1 hP1 _ hS1 => ?_)
    rw [nI_clamp (by omega)] at hP1
    exact fin' H1 locs1 hP1 hS1
end ZF

/-! the small machine: values, heap, world -/
abbrev zz_V : Type := Int32 ⊕ Int64 ⊕ (Nat × Option Nat)
abbrev zz_i (x : Int32) : zz_V := Sum.inl x
abbrev zz_l (x : Int64) : zz_V := Sum.inr (Sum.inl x)
abbrev zz_r (t : Nat) (o : Option Nat) : zz_V := Sum.inr (Sum.inr (t, o))
def zz_v (v : zz_V) : Value := match v with
  | .inl x => .int x
  | .inr (.inl x) => .long x
  | .inr (.inr q) => va_rf q.2
def zz_cat (v : zz_V) : Nat := match v with
  | .inr (.inl _) => 2
  | _ => 1
theorem zz_cat_v (v : zz_V) : (zz_v v).category = zz_cat v := by
  rcases v with x | x | ⟨t, o⟩
  · rfl
  · rfl
  · cases o <;> rfl
/-- tags (static type, length), int fields, reference fields, int arrays, reference arrays, long arrays -/
abbrev zz_H : Type := (Nat → Option (Nat × Nat)) × (Nat → Nat → Nat → Int32) × (Nat → Nat → Nat → Option Nat) × (Nat → Nat → Int32) × (Nat → Nat → Option Nat) × (Nat → Nat → Int64)
def zz_tg (h : zz_H) : Nat → Option (Nat × Nat) := h.1
def zz_fI (h : zz_H) : Nat → Nat → Nat → Int32 := h.2.1
def zz_fR (h : zz_H) : Nat → Nat → Nat → Option Nat := h.2.2.1
def zz_aI (h : zz_H) : Nat → Nat → Int32 := h.2.2.2.1
def zz_aR (h : zz_H) : Nat → Nat → Option Nat := h.2.2.2.2.1
def zz_aL (h : zz_H) : Nat → Nat → Int64 := h.2.2.2.2.2
def zz_pI (h : zz_H) (ci k a : Nat) (x : Int32) : zz_H := (h.1, (fun c j b => if c = ci ∧ j = k ∧ b = a then x else h.2.1 c j b), h.2.2.1, h.2.2.2.1, h.2.2.2.2.1, h.2.2.2.2.2)
def zz_pR (h : zz_H) (ci k a : Nat) (x : Option Nat) : zz_H := (h.1, h.2.1, (fun c j b => if c = ci ∧ j = k ∧ b = a then x else h.2.2.1 c j b), h.2.2.2.1, h.2.2.2.2.1, h.2.2.2.2.2)
def zz_sI (h : zz_H) (a i : Nat) (x : Int32) : zz_H := (h.1, h.2.1, h.2.2.1, (fun b j => if b = a ∧ j = i then x else h.2.2.2.1 b j), h.2.2.2.2.1, h.2.2.2.2.2)
def zz_sR (h : zz_H) (a i : Nat) (x : Option Nat) : zz_H := (h.1, h.2.1, h.2.2.1, h.2.2.2.1, (fun b j => if b = a ∧ j = i then x else h.2.2.2.2.1 b j), h.2.2.2.2.2)
def zz_sL (h : zz_H) (a i : Nat) (x : Int64) : zz_H := (h.1, h.2.1, h.2.2.1, h.2.2.2.1, h.2.2.2.2.1, (fun b j => if b = a ∧ j = i then x else h.2.2.2.2.2 b j))
/-- an array's places changed as a whole -/
def zz_uI (h : zz_H) (a : Nat) (f : Nat → Int32) : zz_H := (h.1, h.2.1, h.2.2.1, (fun b j => if b = a then f j else h.2.2.2.1 b j), h.2.2.2.2.1, h.2.2.2.2.2)
def zz_uR (h : zz_H) (a : Nat) (f : Nat → Option Nat) : zz_H := (h.1, h.2.1, h.2.2.1, h.2.2.2.1, (fun b j => if b = a then f j else h.2.2.2.2.1 b j), h.2.2.2.2.2)
def zz_new (h : zz_H) (ci a : Nat) : zz_H := ((fun b => if b = a then some (ci, 0) else h.1 b), (fun c j b => if c = ci ∧ b = a then 0 else h.2.1 c j b), (fun c j b => if c = ci ∧ b = a then none else h.2.2.1 c j b), h.2.2.2.1, h.2.2.2.2.1, h.2.2.2.2.2)
def zz_newA (h : zz_H) (ty n a : Nat) : zz_H := ((fun b => if b = a then some (ty, n) else h.1 b), h.2.1, h.2.2.1, (fun b j => if b = a then 0 else h.2.2.2.1 b j), (fun b j => if b = a then none else h.2.2.2.2.1 b j), (fun b j => if b = a then 0 else h.2.2.2.2.2 b j))
/-! what is read behind a write -/
theorem zz_tg_pI (h : zz_H) (ci k a : Nat) (x : Int32) : zz_tg (zz_pI h ci k a x) = zz_tg h := rfl
theorem zz_fI_pI (h : zz_H) (ci k a : Nat) (x : Int32) (c j b : Nat) : zz_fI (zz_pI h ci k a x) c j b = if c = ci ∧ j = k ∧ b = a then x else zz_fI h c j b := rfl
theorem zz_fR_pI (h : zz_H) (ci k a : Nat) (x : Int32) : zz_fR (zz_pI h ci k a x) = zz_fR h := rfl
theorem zz_aI_pI (h : zz_H) (ci k a : Nat) (x : Int32) : zz_aI (zz_pI h ci k a x) = zz_aI h := rfl
theorem zz_aR_pI (h : zz_H) (ci k a : Nat) (x : Int32) : zz_aR (zz_pI h ci k a x) = zz_aR h := rfl
theorem zz_aL_pI (h : zz_H) (ci k a : Nat) (x : Int32) : zz_aL (zz_pI h ci k a x) = zz_aL h := rfl
theorem zz_tg_pR (h : zz_H) (ci k a : Nat) (x : Option Nat) : zz_tg (zz_pR h ci k a x) = zz_tg h := rfl
theorem zz_fI_pR (h : zz_H) (ci k a : Nat) (x : Option Nat) : zz_fI (zz_pR h ci k a x) = zz_fI h := rfl
theorem zz_fR_pR (h : zz_H) (ci k a : Nat) (x : Option Nat) (c j b : Nat) : zz_fR (zz_pR h ci k a x) c j b = if c = ci ∧ j = k ∧ b = a then x else zz_fR h c j b := rfl
theorem zz_aI_pR (h : zz_H) (ci k a : Nat) (x : Option Nat) : zz_aI (zz_pR h ci k a x) = zz_aI h := rfl
theorem zz_aR_pR (h : zz_H) (ci k a : Nat) (x : Option Nat) : zz_aR (zz_pR h ci k a x) = zz_aR h := rfl
theorem zz_aL_pR (h : zz_H) (ci k a : Nat) (x : Option Nat) : zz_aL (zz_pR h ci k a x) = zz_aL h := rfl
theorem zz_tg_sI (h : zz_H) (a i : Nat) (x : Int32) : zz_tg (zz_sI h a i x) = zz_tg h := rfl
theorem zz_fI_sI (h : zz_H) (a i : Nat) (x : Int32) : zz_fI (zz_sI h a i x) = zz_fI h := rfl
theorem zz_fR_sI (h : zz_H) (a i : Nat) (x : Int32) : zz_fR (zz_sI h a i x) = zz_fR h := rfl
theorem zz_aI_sI (h : zz_H) (a i : Nat) (x : Int32) (b j : Nat) : zz_aI (zz_sI h a i x) b j = if b = a ∧ j = i then x else zz_aI h b j := rfl
theorem zz_aR_sI (h : zz_H) (a i : Nat) (x : Int32) : zz_aR (zz_sI h a i x) = zz_aR h := rfl
theorem zz_aL_sI (h : zz_H) (a i : Nat) (x : Int32) : zz_aL (zz_sI h a i x) = zz_aL h := rfl
theorem zz_tg_sR (h : zz_H) (a i : Nat) (x : Option Nat) : zz_tg (zz_sR h a i x) = zz_tg h := rfl
theorem zz_fI_sR (h : zz_H) (a i : Nat) (x : Option Nat) : zz_fI (zz_sR h a i x) = zz_fI h := rfl
theorem zz_fR_sR (h : zz_H) (a i : Nat) (x : Option Nat) : zz_fR (zz_sR h a i x) = zz_fR h := rfl
theorem zz_aI_sR (h : zz_H) (a i : Nat) (x : Option Nat) : zz_aI (zz_sR h a i x) = zz_aI h := rfl
theorem zz_aR_sR (h : zz_H) (a i : Nat) (x : Option Nat) (b j : Nat) : zz_aR (zz_sR h a i x) b j = if b = a ∧ j = i then x else zz_aR h b j := rfl
theorem zz_aL_sR (h : zz_H) (a i : Nat) (x : Option Nat) : zz_aL (zz_sR h a i x) = zz_aL h := rfl
theorem zz_tg_sL (h : zz_H) (a i : Nat) (x : Int64) : zz_tg (zz_sL h a i x) = zz_tg h := rfl
theorem zz_fI_sL (h : zz_H) (a i : Nat) (x : Int64) : zz_fI (zz_sL h a i x) = zz_fI h := rfl
theorem zz_fR_sL (h : zz_H) (a i : Nat) (x : Int64) : zz_fR (zz_sL h a i x) = zz_fR h := rfl
theorem zz_aI_sL (h : zz_H) (a i : Nat) (x : Int64) : zz_aI (zz_sL h a i x) = zz_aI h := rfl
theorem zz_aR_sL (h : zz_H) (a i : Nat) (x : Int64) : zz_aR (zz_sL h a i x) = zz_aR h := rfl
theorem zz_aL_sL (h : zz_H) (a i : Nat) (x : Int64) (b j : Nat) : zz_aL (zz_sL h a i x) b j = if b = a ∧ j = i then x else zz_aL h b j := rfl
theorem zz_tg_uI (h : zz_H) (a : Nat) (f : Nat → Int32) : zz_tg (zz_uI h a f) = zz_tg h := rfl
theorem zz_fI_uI (h : zz_H) (a : Nat) (f : Nat → Int32) : zz_fI (zz_uI h a f) = zz_fI h := rfl
theorem zz_fR_uI (h : zz_H) (a : Nat) (f : Nat → Int32) : zz_fR (zz_uI h a f) = zz_fR h := rfl
theorem zz_aI_uI (h : zz_H) (a : Nat) (f : Nat → Int32) (b j : Nat) : zz_aI (zz_uI h a f) b j = if b = a then f j else zz_aI h b j := rfl
theorem zz_aR_uI (h : zz_H) (a : Nat) (f : Nat → Int32) : zz_aR (zz_uI h a f) = zz_aR h := rfl
theorem zz_aL_uI (h : zz_H) (a : Nat) (f : Nat → Int32) : zz_aL (zz_uI h a f) = zz_aL h := rfl
theorem zz_tg_uR (h : zz_H) (a : Nat) (f : Nat → Option Nat) : zz_tg (zz_uR h a f) = zz_tg h := rfl
theorem zz_fI_uR (h : zz_H) (a : Nat) (f : Nat → Option Nat) : zz_fI (zz_uR h a f) = zz_fI h := rfl
theorem zz_fR_uR (h : zz_H) (a : Nat) (f : Nat → Option Nat) : zz_fR (zz_uR h a f) = zz_fR h := rfl
theorem zz_aI_uR (h : zz_H) (a : Nat) (f : Nat → Option Nat) : zz_aI (zz_uR h a f) = zz_aI h := rfl
theorem zz_aR_uR (h : zz_H) (a : Nat) (f : Nat → Option Nat) (b j : Nat) : zz_aR (zz_uR h a f) b j = if b = a then f j else zz_aR h b j := rfl
theorem zz_aL_uR (h : zz_H) (a : Nat) (f : Nat → Option Nat) : zz_aL (zz_uR h a f) = zz_aL h := rfl
theorem zz_tg_new (h : zz_H) (ci a b : Nat) : zz_tg (zz_new h ci a) b = if b = a then some (ci, 0) else zz_tg h b := rfl
theorem zz_fI_new (h : zz_H) (ci a c j b : Nat) : zz_fI (zz_new h ci a) c j b = if c = ci ∧ b = a then 0 else zz_fI h c j b := rfl
theorem zz_fR_new (h : zz_H) (ci a c j b : Nat) : zz_fR (zz_new h ci a) c j b = if c = ci ∧ b = a then none else zz_fR h c j b := rfl
theorem zz_aI_new (h : zz_H) (ci a : Nat) : zz_aI (zz_new h ci a) = zz_aI h := rfl
theorem zz_aR_new (h : zz_H) (ci a : Nat) : zz_aR (zz_new h ci a) = zz_aR h := rfl
theorem zz_aL_new (h : zz_H) (ci a : Nat) : zz_aL (zz_new h ci a) = zz_aL h := rfl
theorem zz_tg_newA (h : zz_H) (ty n a b : Nat) : zz_tg (zz_newA h ty n a) b = if b = a then some (ty, n) else zz_tg h b := rfl
theorem zz_fI_newA (h : zz_H) (ty n a : Nat) : zz_fI (zz_newA h ty n a) = zz_fI h := rfl
theorem zz_fR_newA (h : zz_H) (ty n a : Nat) : zz_fR (zz_newA h ty n a) = zz_fR h := rfl
theorem zz_aI_newA (h : zz_H) (ty n a b j : Nat) : zz_aI (zz_newA h ty n a) b j = if b = a then 0 else zz_aI h b j := rfl
theorem zz_aR_newA (h : zz_H) (ty n a b j : Nat) : zz_aR (zz_newA h ty n a) b j = if b = a then none else zz_aR h b j := rfl
theorem zz_aL_newA (h : zz_H) (ty n a b j : Nat) : zz_aL (zz_newA h ty n a) b j = if b = a then 0 else zz_aL h b j := rfl
/-! the cells -/
def zz_fv (h : zz_H) (ci k a : Nat) : Value := match zz_ft ci k with
  | none => .int (zz_fI h ci k a)
  | some _ => va_rf (zz_fR h ci k a)
def zz_fs (h : zz_H) (ci a : Nat) : List Value := (List.range (zz_nf ci)).map (fun k => zz_fv h ci k a)
def zz_cell (DA : Nat → ClassId) (h : zz_H) (a : Nat) : Option va_E := match zz_tg h a with
  | none => none
  | some (ty, n) =>
    if ty < 90 then some (.inr (ty, zz_fs h ty a))
    else if ty = 93 then none
    else if ty = 92 then some (.inl (DA ty, n, .inr (.inl (zz_aL h a))))
    else if ty < 100 then some (.inl (DA ty, n, .inl (zz_aI h a)))
    else some (.inl (DA ty, n, .inr (.inr (.inr (.inr (zz_aR h a))))))
/-- a value is of its static type -/
def zz_ty (h : zz_H) (v : zz_V) : Prop := match v with
  | .inr (.inr q) => ∀ b, q.2 = some b → ∃ n, zz_tg h b = some (q.1, n)
  | _ => True
def zz_T (h : zz_H) (vs : List zz_V) : Prop := ∀ v ∈ vs, zz_ty h v
def zz_tyH (h : zz_H) : Prop :=
  (∀ a ci n k ty, zz_tg h a = some (ci, n) → ci < 90 → zz_ft ci k = some ty → zz_ty h (zz_r ty (zz_fR h ci k a))) ∧
  (∀ a ty n j, zz_tg h a = some (ty, n) → 100 ≤ ty → zz_ty h (zz_r (ty - 100) (zz_aR h a j)))
def zz_W (D : va_G) (DA : Nat → ClassId) (U : State) (h : zz_H) (H : Heap) : Prop :=
  (∀ a e, zz_cell DA h a = some e → va_at D zz_cl (a, e) H) ∧ (∀ a n, zz_tg h a = some (93, n) → va_X a n (zz_aI h a) U H) ∧ zz_tyH h
def zz_S (A : Nat → Prop) (H0 : Heap) (h : zz_H) (H : Heap) (locs : List Loc) : Prop :=
  va_S A H0 H locs ∧ (∀ q, H0.size ≤ q → A q) ∧ (∀ a ty n, zz_tg h a = some (ty, n) → ty ≠ 93 → A a) ∧ (∀ a n, zz_tg h a = some (93, n) → a < H0.size ∧ ¬ A a)
def zz_le (h h' : zz_H) : Prop := (∀ a t, zz_tg h a = some t → zz_tg h' a = some t) ∧ ∀ a n, zz_tg h' a = some (93, n) → zz_tg h a = some (93, n)
theorem zz_le_rf (h : zz_H) : zz_le h h := ⟨fun _ _ q => q, fun _ _ q => q⟩
theorem zz_le_tr {h1 h2 h3 : zz_H} (a : zz_le h1 h2) (b : zz_le h2 h3) : zz_le h1 h3 := ⟨fun x t q => b.1 x t (a.1 x t q), fun x n q => a.2 x n (b.2 x n q)⟩
theorem zz_ty_le {h h' : zz_H} (hl : ∀ a t, zz_tg h a = some t → zz_tg h' a = some t) {v : zz_V} (hv : zz_ty h v) : zz_ty h' v := by
  rcases v with x | x | ⟨t, o⟩
  · trivial
  · trivial
  · intro b hb
    obtain ⟨n, hn⟩ := hv b hb
    exact ⟨n, hl b _ hn⟩
theorem zz_T_le {h h' : zz_H} (hl : ∀ a t, zz_tg h a = some t → zz_tg h' a = some t) {vs : List zz_V} (hv : zz_T h vs) : zz_T h' vs := fun v q => zz_ty_le hl (hv v q)
/-! the cells as a list -/
def zz_ws (DA : Nat → ClassId) (h : zz_H) (N : Nat) : va_W := (List.range N).filterMap (fun a => (zz_cell DA h a).map (fun e => (a, e)))
theorem zz_ws_mem {DA : Nat → ClassId} {h : zz_H} {N a : Nat} {e : va_E} : (a, e) ∈ zz_ws DA h N ↔ a < N ∧ zz_cell DA h a = some e := by
  unfold zz_ws
  rw [List.mem_filterMap]
  constructor
  · rintro ⟨b, hb, hq⟩
    obtain ⟨e', he, hq⟩ := Option.map_eq_some_iff.mp hq
    cases hq
    exact ⟨List.mem_range.mp hb, he⟩
  · rintro ⟨h1, h2⟩
    exact ⟨a, List.mem_range.mpr h1, by rw [h2]; rfl⟩
theorem zz_ws_lt (DA : Nat → ClassId) (h : zz_H) (N : Nat) : (zz_ws DA h N).Pairwise (fun x y => x.1 < y.1) := by
  unfold zz_ws
  rw [List.pairwise_filterMap]
  refine (List.pairwise_lt_range (n := N)).imp ?_
  intro a b hab x hx y hy
  obtain ⟨e1, -, rfl⟩ := Option.map_eq_some_iff.mp hx
  obtain ⟨e2, -, rfl⟩ := Option.map_eq_some_iff.mp hy
  exact hab
theorem zz_ws_nd {DA : Nat → ClassId} {h : zz_H} {N : Nat} (i j : Nat) (x y : Nat × va_E) (hi : (zz_ws DA h N)[i]? = some x) (hj : (zz_ws DA h N)[j]? = some y) (hxy : x.1 = y.1) : i = j := by
  obtain ⟨hi1, hi2⟩ := List.getElem?_eq_some_iff.mp hi
  obtain ⟨hj1, hj2⟩ := List.getElem?_eq_some_iff.mp hj
  rcases Nat.lt_trichotomy i j with hl | hl | hl
  · have := List.pairwise_iff_getElem.mp (zz_ws_lt DA h N) i j hi1 hj1 hl
    rw [hi2, hj2] at this
    omega
  · exact hl
  · have := List.pairwise_iff_getElem.mp (zz_ws_lt DA h N) j i hj1 hi1 hl
    rw [hi2, hj2] at this
    omega
theorem zz_cell_tag {DA : Nat → ClassId} {h : zz_H} {a : Nat} {e : va_E} (he : zz_cell DA h a = some e) : ∃ ty n, zz_tg h a = some (ty, n) ∧ ty ≠ 93 := by
  unfold zz_cell at he
  cases ht : zz_tg h a with
  | none => rw [ht] at he; cases he
  | some q =>
    obtain ⟨ty, n⟩ := q
    rw [ht] at he
    refine ⟨ty, n, rfl, ?_⟩
    rintro rfl
    simp at he
theorem zz_tag_cell {DA : Nat → ClassId} {h : zz_H} {a ty n : Nat} (ht : zz_tg h a = some (ty, n)) (h93 : ty ≠ 93) : ∃ e, zz_cell DA h a = some e := by
  unfold zz_cell
  rw [ht]
  simp only [h93, if_false]
  split
  · exact ⟨_, rfl⟩
  · split
    · exact ⟨_, rfl⟩
    · split <;> exact ⟨_, rfl⟩
section ZW
variable {D : va_G} {DA : Nat → ClassId} {U : State} {h h' : zz_H} {H H1 H0 : Heap} {A : Nat → Prop} {locs locs1 : List Loc}
theorem zz_toP (hW : zz_W D DA U h H) : va_P D zz_cl (zz_ws DA h H.size) H := fun k q hk => by
  obtain ⟨a, e⟩ := q
  exact hW.1 a e (zz_ws_mem.mp (List.mem_of_getElem? hk)).2
theorem zz_toD (DA : Nat → ClassId) (hS : zz_S A H0 h H locs) : va_D A (zz_ws DA h H.size) := by
  refine ⟨fun i j x y hi hj hxy => zz_ws_nd i j x y hi hj hxy, fun k q hk => ?_⟩
  obtain ⟨a, e⟩ := q
  obtain ⟨ty, n, ht, h93⟩ := zz_cell_tag (zz_ws_mem.mp (List.mem_of_getElem? hk)).2
  exact hS.2.2.1 a ty n ht h93
theorem zz_pos (hW : zz_W D DA U h H) {a : Nat} {e : va_E} (he : zz_cell DA h a = some e) : ∃ q0 : Nat, (zz_ws DA h H.size)[q0]? = some (a, e) :=
  List.getElem?_of_mem (zz_ws_mem.mpr ⟨(hW.1 a e he).lt, he⟩)
theorem zz_at1 (hW : zz_W D DA U h H) {a : Nat} {e : va_E} (he : zz_cell DA h a = some e) : va_P D zz_cl [(a, e)] H := by
  intro k q hk
  have hz : k < 1 := (List.getElem?_eq_some_iff.mp hk).1
  rw [show k = 0 by omega] at hk
  cases hk
  exact hW.1 a e he
theorem zz_back {a q0 : Nat} {e e' : va_E} (hW : zz_W D DA U h H) (hS : zz_S A H0 h H locs) (hq : (zz_ws DA h H.size)[q0]? = some (a, e)) (hP : va_P D zz_cl ((zz_ws DA h H.size).set q0 (a, e')) H1) (hS1 : va_S A H0 H1 locs1)
    (hc : zz_cell DA h' a = some e') (ho : ∀ b, b ≠ a → zz_cell DA h' b = zz_cell DA h b) (htg : zz_tg h' = zz_tg h) (h93 : ∀ b n, zz_tg h b = some (93, n) → zz_aI h' b = zz_aI h b) (hty : zz_tyH h') : zz_W D DA U h' H1 ∧ zz_S A H0 h' H1 locs1 := by
  have hl := (List.getElem?_eq_some_iff.mp hq).1
  refine ⟨⟨fun b eb hb => ?_, fun b n hb => ?_, hty⟩, hS1, hS.2.1, fun b ty n hb h9 => ?_, fun b n hb => ?_⟩
  · by_cases hba : b = a
    · subst hba
      rw [hc] at hb
      cases hb
      exact hP q0 _ (List.getElem?_set_self hl)
    · rw [ho b hba] at hb
      obtain ⟨j, hj⟩ := zz_pos hW hb
      have hjq : j ≠ q0 := by
        rintro rfl
        rw [hq] at hj
        cases hj
        exact hba rfl
      exact hP j _ (by rw [List.getElem?_set_ne (Ne.symm hjq)]; exact hj)
  · rw [htg] at hb
    obtain ⟨g1, g2⟩ := hS.2.2.2 b n hb
    rw [h93 b n hb]
    exact (hW.2.1 b n hb).kept ((hS1.2.1 b g1 g2).trans (hS.1.2.1 b g1 g2).symm)
  · rw [htg] at hb
    exact hS.2.2.1 b ty n hb h9
  · rw [htg] at hb
    exact hS.2.2.2 b n hb
theorem zz_fresh {q : Nat} {e' : va_E} (hW : zz_W D DA U h H) (hS : zz_S A H0 h H locs) (hD : va_D A (zz_ws DA h H.size ++ [(q, e')])) : zz_tg h q = none := by
  cases ht : zz_tg h q with
  | none => rfl
  | some t =>
    exfalso
    obtain ⟨ty, n⟩ := t
    have hlast : (zz_ws DA h H.size ++ [(q, e')])[(zz_ws DA h H.size).length]? = some (q, e') := by simp
    by_cases h93 : ty = 93
    · subst h93
      exact (hS.2.2.2 q n ht).2 (hD.2 _ _ hlast)
    · obtain ⟨e, he⟩ := zz_tag_cell (DA := DA) ht h93
      obtain ⟨j, hj⟩ := zz_pos hW he
      have hjl := (List.getElem?_eq_some_iff.mp hj).1
      have := hD.1 j _ (q, e) (q, e') (by rw [List.getElem?_append_left hjl]; exact hj) hlast rfl
      omega
theorem zz_backN {q : Nat} {e' : va_E} {t : Nat × Nat} (hW : zz_W D DA U h H) (hS : zz_S A H0 h H locs) (hP : va_P D zz_cl (zz_ws DA h H.size ++ [(q, e')]) H1) (hD : va_D A (zz_ws DA h H.size ++ [(q, e')])) (hS1 : va_S A H0 H1 locs1)
    (hc : zz_cell DA h' q = some e') (ho : ∀ b, b ≠ q → zz_cell DA h' b = zz_cell DA h b) (htg : ∀ b, zz_tg h' b = if b = q then some t else zz_tg h b) (h9 : t.1 ≠ 93) (h93 : ∀ b, b ≠ q → zz_aI h' b = zz_aI h b) (hty : zz_tyH h') : zz_W D DA U h' H1 ∧ zz_S A H0 h' H1 locs1 := by
  have hlast : (zz_ws DA h H.size ++ [(q, e')])[(zz_ws DA h H.size).length]? = some (q, e') := by simp
  have hAq := hD.2 _ _ hlast
  have old : ∀ b t', zz_tg h' b = some t' → b ≠ q → zz_tg h b = some t' := fun b t' hb hbq => by
    rw [htg b, if_neg hbq] at hb
    exact hb
  have same : ∀ b t', zz_tg h' b = some t' → b = q → t' = t := fun b t' hb hbq => by
    rw [htg b, if_pos hbq] at hb
    cases hb
    rfl
  refine ⟨⟨fun b eb hb => ?_, fun b n hb => ?_, hty⟩, hS1, hS.2.1, fun b ty n hb hn => ?_, fun b n hb => ?_⟩
  · by_cases hbq : b = q
    · subst hbq
      rw [hc] at hb
      cases hb
      exact hP _ _ hlast
    · rw [ho b hbq] at hb
      obtain ⟨j, hj⟩ := zz_pos hW hb
      have hjl := (List.getElem?_eq_some_iff.mp hj).1
      exact hP j _ (by rw [List.getElem?_append_left hjl]; exact hj)
  · by_cases hbq : b = q
    · have := same b _ hb hbq
      rw [← this] at h9
      exact absurd rfl h9
    · have hb' := old b _ hb hbq
      obtain ⟨g1, g2⟩ := hS.2.2.2 b n hb'
      rw [h93 b hbq]
      exact (hW.2.1 b n hb').kept ((hS1.2.1 b g1 g2).trans (hS.1.2.1 b g1 g2).symm)
  · by_cases hbq : b = q
    · rw [hbq]
      exact hAq
    · exact hS.2.2.1 b ty n (old b _ hb hbq) hn
  · by_cases hbq : b = q
    · have := same b _ hb hbq
      rw [← this] at h9
      exact absurd rfl h9
    · exact hS.2.2.2 b n (old b _ hb hbq)
end ZW
/-! the locals by their places -/
def zz_Lh (ls : Array Slot) (nL : Nat) (L : List (Option zz_V)) : Prop := ls.size = nL ∧ lv_wf ls ∧ ∀ (i : Nat) (v : zz_V), L[i]? = some (some v) → ls[i]? = some (.val (zz_v v))
def zz_TL (h : zz_H) (L : List (Option zz_V)) : Prop := ∀ (i : Nat) (v : zz_V), L[i]? = some (some v) → zz_ty h v
def zz_lst (L : List (Option zz_V)) : List (Nat × Value) := L.zipIdx.filterMap (fun q => q.1.map (fun v => (q.2, zz_v v)))
theorem zz_lst_mem {L : List (Option zz_V)} {i : Nat} {w : Value} : (i, w) ∈ zz_lst L ↔ ∃ v, L[i]? = some (some v) ∧ w = zz_v v := by
  unfold zz_lst
  rw [List.mem_filterMap]
  constructor
  · rintro ⟨⟨o, j⟩, hq, he⟩
    obtain ⟨v, hv, he⟩ := Option.map_eq_some_iff.mp he
    cases he
    have := List.mem_zipIdx_iff_getElem?.mp hq
    dsimp only at hv this
    subst hv
    exact ⟨v, this, rfl⟩
  · rintro ⟨v, hv, rfl⟩
    exact ⟨(some v, i), List.mem_zipIdx_iff_getElem?.mpr hv, rfl⟩
theorem zz_Lh_has {ls : Array Slot} {nL : Nat} {L : List (Option zz_V)} (h : zz_Lh ls nL L) : lv_has ls nL (zz_lst L) := by
  refine ⟨h.1, h.2.1, fun q hq => ?_⟩
  obtain ⟨i, w⟩ := q
  obtain ⟨v, hv, rfl⟩ := zz_lst_mem.mp hq
  exact h.2.2 i v hv
/-- no long lies just ahead of place i -/
def zz_nl (L : List (Option zz_V)) (i : Nat) : Bool := match i with
  | 0 => true
  | j + 1 => match L[j]? with
    | some (some (.inr (.inl _))) => false
    | _ => true
theorem zz_nl_of {L : List (Option zz_V)} {i j : Nat} {w : zz_V} (hn : zz_nl L i = true) (hj : L[j]? = some (some w)) (hji : j + 1 = i) : zz_cat w = 1 := by
  subst hji
  rcases w with x | x | x
  · rfl
  · simp [zz_nl, hj] at hn
  · rfl
theorem zz_Lh_set1 {ls : Array Slot} {nL i : Nat} {L : List (Option zz_V)} {v : zz_V} (hn : zz_nl L i = true)
    (h : lv_has ls nL ((i, zz_v v) :: (zz_lst L).filter (fun q => !(q.1 == i) && !(q.1 + 1 == i && q.2.category == 2)))) : zz_Lh ls nL (L.set i (some v)) := by
  refine ⟨h.1, h.2.1, fun j w hj => ?_⟩
  by_cases hji : j = i
  · subst hji
    have hlt : j < L.length := by
      have := (List.getElem?_eq_some_iff.mp hj).1
      simpa using this
    rw [List.getElem?_set_self hlt] at hj
    cases hj
    exact h.2.2 _ List.mem_cons_self
  · rw [List.getElem?_set_ne (Ne.symm hji)] at hj
    refine h.2.2 (j, zz_v w) (List.mem_cons_of_mem _ (List.mem_filter.mpr ⟨zz_lst_mem.mpr ⟨w, hj, rfl⟩, ?_⟩))
    by_cases hj1 : j + 1 = i
    · have hc := zz_nl_of hn hj hj1
      simp [hji, zz_cat_v, hc]
    · simp [hji, hj1]
theorem zz_Lh_set2 {ls : Array Slot} {nL i : Nat} {L : List (Option zz_V)} {v : zz_V} (hn : zz_nl L i = true)
    (h : lv_has ls nL ((i, zz_v v) :: (zz_lst L).filter (fun q => !(q.1 == i) && (!(q.1 == i + 1) && !(q.1 + 1 == i && q.2.category == 2))))) : zz_Lh ls nL ((L.set i (some v)).set (i + 1) none) := by
  refine ⟨h.1, h.2.1, fun j w hj => ?_⟩
  by_cases hj2 : j = i + 1
  · exfalso
    subst hj2
    by_cases hl : i + 1 < (L.set i (some v)).length
    · rw [List.getElem?_set_self hl] at hj
      cases hj
    · rw [List.getElem?_eq_none (by simpa using Nat.le_of_not_lt hl)] at hj
      cases hj
  rw [List.getElem?_set_ne (Ne.symm hj2)] at hj
  by_cases hji : j = i
  · subst hji
    have hlt : j < L.length := by
      have := (List.getElem?_eq_some_iff.mp hj).1
      simpa using this
    rw [List.getElem?_set_self hlt] at hj
    cases hj
    exact h.2.2 _ List.mem_cons_self
  · rw [List.getElem?_set_ne (Ne.symm hji)] at hj
    refine h.2.2 (j, zz_v w) (List.mem_cons_of_mem _ (List.mem_filter.mpr ⟨zz_lst_mem.mpr ⟨w, hj, rfl⟩, ?_⟩))
    by_cases hj1 : j + 1 = i
    · have hc := zz_nl_of hn hj hj1
      simp [hji, hj2, zz_cat_v, hc]
    · simp [hji, hj2, hj1]
theorem zz_TL_set {h : zz_H} {L : List (Option zz_V)} {i : Nat} {v : zz_V} (hT : zz_TL h L) (hv : zz_ty h v) : zz_TL h (L.set i (some v)) := by
  intro j w hj
  by_cases hji : j = i
  · subst hji
    have hlt : j < L.length := by
      have := (List.getElem?_eq_some_iff.mp hj).1
      simpa using this
    rw [List.getElem?_set_self hlt] at hj
    cases hj
    exact hv
  · rw [List.getElem?_set_ne (Ne.symm hji)] at hj
    exact hT j w hj
theorem zz_TL_none {h : zz_H} {L : List (Option zz_V)} {i : Nat} (hT : zz_TL h L) : zz_TL h (L.set i none) := by
  intro j w hj
  by_cases hji : j = i
  · subst hji
    have hlt : j < L.length := by
      have := (List.getElem?_eq_some_iff.mp hj).1
      simpa using this
    rw [List.getElem?_set_self hlt] at hj
    cases hj
  · rw [List.getElem?_set_ne (Ne.symm hji)] at hj
    exact hT j w hj
theorem zz_TL_le {h h' : zz_H} {L : List (Option zz_V)} (hl : ∀ a t, zz_tg h a = some t → zz_tg h' a = some t) (hT : zz_TL h L) : zz_TL h' L := fun i v q => zz_ty_le hl (hT i v q)
/-- fewer locals are known -/
def zz_msk : List (Option zz_V) → List Bool → List (Option zz_V)
  | o :: L, b :: M => (bif b then o else none) :: zz_msk L M
  | _, _ => []
theorem zz_msk_at {L : List (Option zz_V)} : ∀ {M : List Bool} {i : Nat} {v : zz_V}, (zz_msk L M)[i]? = some (some v) → L[i]? = some (some v) := by
  induction L with
  | nil => intro M i v hq; cases M <;> simp [zz_msk] at hq
  | cons o L ih =>
    intro M i v hq
    cases M with
    | nil => simp [zz_msk] at hq
    | cons b M =>
      cases i with
      | zero =>
        cases b
        · simp [zz_msk] at hq
        · simpa [zz_msk] using hq
      | succ i =>
        simp only [zz_msk, List.getElem?_cons_succ] at hq ⊢
        exact ih hq

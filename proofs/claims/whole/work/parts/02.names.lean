def zf_T : u_T := fun k => match k with
  | 0 => ("SegmentTrees", "kinds", "[LSegmentTrees$Kind;", true)
  | 1 => ("SegmentTrees", "workWords", "[I", true)
  | 2 => ("SegmentTrees", "stated", "LSegmentTrees$Path;", true)
  | 3 => ("SegmentTrees", "order", "LSegmentTrees$Order;", true)
  | 4 => ("SegmentTrees", "position", "LSegmentTrees$Position;", true)
  | 5 => ("SegmentTrees", "held", "LSegmentTrees$Segment;", false)
  | 6 => ("SegmentTrees", "fixed", "LSegmentTrees$Segment;", false)
  | _ => ("SegmentTrees", "lastNumber", "I", false)
def zt_T : Nat → FieldType := fun k => match k with
  | 0 => .array (.object "SegmentTrees$Kind")
  | 1 => .array .int
  | 2 => .object "SegmentTrees$Path"
  | 3 => .object "SegmentTrees$Order"
  | 4 => .object "SegmentTrees$Position"
  | 5 => .object "SegmentTrees$Segment"
  | 6 => .object "SegmentTrees$Segment"
  | _ => .int
def zs_T : Nat → Option Nat := fun k => match k with
  | 0 => some 101
  | 1 => some 90
  | 2 => some 4
  | 3 => some 5
  | 4 => some 6
  | 5 => some 2
  | 6 => some 2
  | _ => none
def zf_K : u_T := fun k => match k with
  | 0 => ("SegmentTrees$Kind", "code", "I", true)
  | 1 => ("SegmentTrees$Kind", "parent", "LSegmentTrees$Kind;", true)
  | 2 => ("SegmentTrees$Kind", "level", "I", true)
  | 3 => ("SegmentTrees$Kind", "length", "I", true)
  | 4 => ("SegmentTrees$Kind", "sequence", "I", true)
  | 5 => ("SegmentTrees$Kind", "unique", "Z", true)
  | 6 => ("SegmentTrees$Kind", "tiesLast", "Z", true)
  | _ => ("SegmentTrees$Kind", "twin", "LSegmentTrees$Kind;", false)
def zt_K : Nat → FieldType := fun k => match k with
  | 0 => .int
  | 1 => .object "SegmentTrees$Kind"
  | 2 => .int
  | 3 => .int
  | 4 => .int
  | 5 => .boolean
  | 6 => .boolean
  | _ => .object "SegmentTrees$Kind"
def zs_K : Nat → Option Nat := fun k => match k with
  | 0 => none
  | 1 => some 1
  | 2 => none
  | 3 => none
  | 4 => none
  | 5 => none
  | 6 => none
  | _ => some 1
def zf_S : u_T := fun k => match k with
  | 0 => ("SegmentTrees$Segment", "number", "I", true)
  | 1 => ("SegmentTrees$Segment", "kind", "LSegmentTrees$Kind;", true)
  | 2 => ("SegmentTrees$Segment", "parent", "LSegmentTrees$Segment;", true)
  | 3 => ("SegmentTrees$Segment", "words", "[I", true)
  | 4 => ("SegmentTrees$Segment", "twin", "LSegmentTrees$Segment;", false)
  | 5 => ("SegmentTrees$Segment", "hasValue", "Z", false)
  | _ => ("SegmentTrees$Segment", "value", "I", false)
def zt_S : Nat → FieldType := fun k => match k with
  | 0 => .int
  | 1 => .object "SegmentTrees$Kind"
  | 2 => .object "SegmentTrees$Segment"
  | 3 => .array .int
  | 4 => .object "SegmentTrees$Segment"
  | 5 => .boolean
  | _ => .int
def zs_S : Nat → Option Nat := fun k => match k with
  | 0 => none
  | 1 => some 1
  | 2 => some 2
  | 3 => some 90
  | 4 => some 2
  | 5 => none
  | _ => none
def zf_L : u_T := fun k => match k with
  | 0 => ("SegmentTrees$PathLevel", "kind", "LSegmentTrees$Kind;", false)
  | 1 => ("SegmentTrees$PathLevel", "conditions", "I", false)
  | 2 => ("SegmentTrees$PathLevel", "words", "[I", true)
  | 3 => ("SegmentTrees$PathLevel", "operations", "[I", true)
  | _ => ("SegmentTrees$PathLevel", "numbers", "[I", true)
def zt_L : Nat → FieldType := fun k => match k with
  | 0 => .object "SegmentTrees$Kind"
  | 1 => .int
  | 2 => .array .int
  | 3 => .array .int
  | _ => .array .int
def zs_L : Nat → Option Nat := fun k => match k with
  | 0 => some 1
  | 1 => none
  | 2 => some 90
  | 3 => some 90
  | _ => some 90
def zf_P : u_T := fun k => match k with
  | _ => ("SegmentTrees$Path", "levels", "[LSegmentTrees$PathLevel;", true)
def zt_P : Nat → FieldType := fun k => match k with
  | _ => .array (.object "SegmentTrees$PathLevel")
def zs_P : Nat → Option Nat := fun k => match k with
  | _ => some 103
def zf_O : u_T := fun k => match k with
  | 0 => ("SegmentTrees$Order", "bySequence", "[LSegmentTrees$Segment;", true)
  | 1 => ("SegmentTrees$Order", "now", "[LSegmentTrees$Segment;", true)
  | 2 => ("SegmentTrees$Order", "size", "I", false)
  | 3 => ("SegmentTrees$Order", "secondKind", "LSegmentTrees$Kind;", false)
  | 4 => ("SegmentTrees$Order", "secondWord", "I", false)
  | _ => ("SegmentTrees$Order", "secondOn", "Z", false)
def zt_O : Nat → FieldType := fun k => match k with
  | 0 => .array (.object "SegmentTrees$Segment")
  | 1 => .array (.object "SegmentTrees$Segment")
  | 2 => .int
  | 3 => .object "SegmentTrees$Kind"
  | 4 => .int
  | _ => .boolean
def zs_O : Nat → Option Nat := fun k => match k with
  | 0 => some 102
  | 1 => some 102
  | 2 => none
  | 3 => some 1
  | 4 => none
  | _ => none
def zf_Q : u_T := fun k => match k with
  | 0 => ("SegmentTrees$Position", "mark", "LSegmentTrees$Segment;", false)
  | 1 => ("SegmentTrees$Position", "atMark", "Z", false)
  | _ => ("SegmentTrees$Position", "behindAll", "Z", false)
def zt_Q : Nat → FieldType := fun k => match k with
  | 0 => .object "SegmentTrees$Segment"
  | 1 => .boolean
  | _ => .boolean
def zs_Q : Nat → Option Nat := fun k => match k with
  | 0 => some 2
  | 1 => none
  | _ => none
def zf_M : u_T := fun k => match k with
  | 0 => ("SegmentTreesModel", "thrown", "I", false)
  | 1 => ("SegmentTreesModel", "declared", "[Z", true)
  | 2 => ("SegmentTreesModel", "above", "[I", true)
  | 3 => ("SegmentTreesModel", "level", "[I", true)
  | 4 => ("SegmentTreesModel", "length", "[I", true)
  | 5 => ("SegmentTreesModel", "sequence", "[I", true)
  | 6 => ("SegmentTreesModel", "isUnique", "[Z", true)
  | 7 => ("SegmentTreesModel", "isLast", "[Z", true)
  | 8 => ("SegmentTreesModel", "twinType", "[I", true)
  | 9 => ("SegmentTreesModel", "secondType", "I", false)
  | 10 => ("SegmentTreesModel", "secondWord", "I", false)
  | 11 => ("SegmentTreesModel", "secondOn", "Z", false)
  | 12 => ("SegmentTreesModel", "numbers", "I", false)
  | 13 => ("SegmentTreesModel", "many", "I", false)
  | 14 => ("SegmentTreesModel", "number", "[I", true)
  | 15 => ("SegmentTreesModel", "kind", "[I", true)
  | 16 => ("SegmentTreesModel", "parent", "[I", true)
  | 17 => ("SegmentTreesModel", "twin", "[I", true)
  | 18 => ("SegmentTreesModel", "words", "[I", true)
  | 19 => ("SegmentTreesModel", "order", "[I", true)
  | 20 => ("SegmentTreesModel", "value", "[J", true)
  | 21 => ("SegmentTreesModel", "goes", "[Z", true)
  | 22 => ("SegmentTreesModel", "stated", "[I", true)
  | 23 => ("SegmentTreesModel", "conditions", "[I", true)
  | 24 => ("SegmentTreesModel", "onWord", "[I", true)
  | 25 => ("SegmentTreesModel", "operation", "[I", true)
  | 26 => ("SegmentTreesModel", "against", "[I", true)
  | 27 => ("SegmentTreesModel", "work", "[I", true)
  | 28 => ("SegmentTreesModel", "how", "I", false)
  | 29 => ("SegmentTreesModel", "where", "I", false)
  | 30 => ("SegmentTreesModel", "held", "I", false)
  | _ => ("SegmentTreesModel", "fixed", "I", false)
def zt_M : Nat → FieldType := fun k => match k with
  | 0 => .int
  | 1 => .array .boolean
  | 2 => .array .int
  | 3 => .array .int
  | 4 => .array .int
  | 5 => .array .int
  | 6 => .array .boolean
  | 7 => .array .boolean
  | 8 => .array .int
  | 9 => .int
  | 10 => .int
  | 11 => .boolean
  | 12 => .int
  | 13 => .int
  | 14 => .array .int
  | 15 => .array .int
  | 16 => .array .int
  | 17 => .array .int
  | 18 => .array .int
  | 19 => .array .int
  | 20 => .array .long
  | 21 => .array .boolean
  | 22 => .array .int
  | 23 => .array .int
  | 24 => .array .int
  | 25 => .array .int
  | 26 => .array .int
  | 27 => .array .int
  | 28 => .int
  | 29 => .int
  | 30 => .int
  | _ => .int
def zs_M : Nat → Option Nat := fun k => match k with
  | 0 => none
  | 1 => some 91
  | 2 => some 90
  | 3 => some 90
  | 4 => some 90
  | 5 => some 90
  | 6 => some 91
  | 7 => some 91
  | 8 => some 90
  | 9 => none
  | 10 => none
  | 11 => none
  | 12 => none
  | 13 => none
  | 14 => some 90
  | 15 => some 90
  | 16 => some 90
  | 17 => some 90
  | 18 => some 90
  | 19 => some 90
  | 20 => some 92
  | 21 => some 91
  | 22 => some 90
  | 23 => some 90
  | 24 => some 90
  | 25 => some 90
  | 26 => some 90
  | 27 => some 90
  | 28 => none
  | 29 => none
  | 30 => none
  | _ => none
def zz_cl : List vw_C := [("SegmentTrees", zf_T, 8), ("SegmentTrees$Kind", zf_K, 8), ("SegmentTrees$Segment", zf_S, 7), ("SegmentTrees$PathLevel", zf_L, 5), ("SegmentTrees$Path", zf_P, 1), ("SegmentTrees$Order", zf_O, 6), ("SegmentTrees$Position", zf_Q, 3), ("SegmentTreesModel", zf_M, 32)]
def zz_nf : Nat → Nat := fun c => match c with
  | 0 => 8
  | 1 => 8
  | 2 => 7
  | 3 => 5
  | 4 => 1
  | 5 => 6
  | 6 => 3
  | 7 => 32
  | _ => 0
def zz_ft : Nat → Nat → Option Nat := fun c => match c with
  | 0 => zs_T
  | 1 => zs_K
  | 2 => zs_S
  | 3 => zs_L
  | 4 => zs_P
  | 5 => zs_O
  | 6 => zs_Q
  | 7 => zs_M
  | _ => fun _ => none
def zz_fty : Nat → Nat → FieldType := fun c => match c with
  | 0 => zt_T
  | 1 => zt_K
  | 2 => zt_S
  | 3 => zt_L
  | 4 => zt_P
  | 5 => zt_O
  | 6 => zt_Q
  | 7 => zt_M
  | _ => fun _ => .int
def zz_ats (DA : Nat → ClassId) : List (ClassId × FieldType) := [(DA 90, .int), (DA 91, .boolean), (DA 92, .long), (DA 101, .object "SegmentTrees$Kind"), (DA 102, .object "SegmentTrees$Segment"), (DA 103, .object "SegmentTrees$PathLevel")]
def zz_ftok (t : Option Nat) (ty : FieldType) : Prop := match t with
  | none => ty = .int ∨ ty = .boolean
  | some _ => (∃ n, ty = .object n) ∨ ∃ n, ty = .array n
def zz_okD (ci : Nat) (C : String) (T : u_T) (N : Nat) : Prop := ci < 90 ∧ zz_nf ci = N ∧ (∀ k, k < N → parseFieldDescriptor (T k).2.2.1 = some (zz_fty ci k)) ∧ (∀ a, a < N → ∀ b, b < N → a ≠ b → (T a).2.1 ≠ (T b).2.1) ∧ (∀ w ∈ u_ws C T N, w ∈ zz_all) ∧ (∀ k, k < N → (T k).1 = C) ∧ ∀ k, k < N → zz_ftok (zz_ft ci k) (zz_fty ci k)
set_option maxRecDepth 20000 in
theorem ok_T : zz_okD 0 "SegmentTrees" zf_T 8 := by
  refine ⟨by decide, rfl, by decide +kernel, by decide +kernel, zz_ins [147, 149, 151, 153, 155, 157, 159, 161] (by decide +kernel) (by decide +kernel), by decide +kernel, fun k hk => ?_⟩
  match k, hk with
  | 0, _ => exact Or.inr ⟨_, rfl⟩
  | 1, _ => exact Or.inr ⟨_, rfl⟩
  | 2, _ => exact Or.inl ⟨_, rfl⟩
  | 3, _ => exact Or.inl ⟨_, rfl⟩
  | 4, _ => exact Or.inl ⟨_, rfl⟩
  | 5, _ => exact Or.inl ⟨_, rfl⟩
  | 6, _ => exact Or.inl ⟨_, rfl⟩
  | 7, _ => exact Or.inl rfl
  | k + 8, hk => exact absurd hk (by omega)
set_option maxRecDepth 20000 in
theorem ok_K : zz_okD 1 "SegmentTrees$Kind" zf_K 8 := by
  refine ⟨by decide, rfl, by decide +kernel, by decide +kernel, zz_ins [412, 414, 416, 418, 420, 422, 424, 426] (by decide +kernel) (by decide +kernel), by decide +kernel, fun k hk => ?_⟩
  match k, hk with
  | 0, _ => exact Or.inl rfl
  | 1, _ => exact Or.inl ⟨_, rfl⟩
  | 2, _ => exact Or.inl rfl
  | 3, _ => exact Or.inl rfl
  | 4, _ => exact Or.inl rfl
  | 5, _ => exact Or.inr rfl
  | 6, _ => exact Or.inr rfl
  | 7, _ => exact Or.inl ⟨_, rfl⟩
  | k + 8, hk => exact absurd hk (by omega)
set_option maxRecDepth 20000 in
theorem ok_S : zz_okD 2 "SegmentTrees$Segment" zf_S 7 := by
  refine ⟨by decide, rfl, by decide +kernel, by decide +kernel, zz_ins [581, 583, 585, 587, 589, 591, 593] (by decide +kernel) (by decide +kernel), by decide +kernel, fun k hk => ?_⟩
  match k, hk with
  | 0, _ => exact Or.inl rfl
  | 1, _ => exact Or.inl ⟨_, rfl⟩
  | 2, _ => exact Or.inl ⟨_, rfl⟩
  | 3, _ => exact Or.inr ⟨_, rfl⟩
  | 4, _ => exact Or.inl ⟨_, rfl⟩
  | 5, _ => exact Or.inr rfl
  | 6, _ => exact Or.inl rfl
  | k + 7, hk => exact absurd hk (by omega)
set_option maxRecDepth 20000 in
theorem ok_L : zz_okD 3 "SegmentTrees$PathLevel" zf_L 5 := by
  refine ⟨by decide, rfl, by decide +kernel, by decide +kernel, zz_ins [78, 80, 82, 84, 86] (by decide +kernel) (by decide +kernel), by decide +kernel, fun k hk => ?_⟩
  match k, hk with
  | 0, _ => exact Or.inl ⟨_, rfl⟩
  | 1, _ => exact Or.inl rfl
  | 2, _ => exact Or.inr ⟨_, rfl⟩
  | 3, _ => exact Or.inr ⟨_, rfl⟩
  | 4, _ => exact Or.inr ⟨_, rfl⟩
  | k + 5, hk => exact absurd hk (by omega)
set_option maxRecDepth 20000 in
theorem ok_P : zz_okD 4 "SegmentTrees$Path" zf_P 1 := by
  refine ⟨by decide, rfl, by decide +kernel, by decide +kernel, zz_ins [91] (by decide +kernel) (by decide +kernel), by decide +kernel, fun k hk => ?_⟩
  match k, hk with
  | 0, _ => exact Or.inr ⟨_, rfl⟩
  | k + 1, hk => exact absurd hk (by omega)
set_option maxRecDepth 20000 in
theorem ok_O : zz_okD 5 "SegmentTrees$Order" zf_O 6 := by
  refine ⟨by decide, rfl, by decide +kernel, by decide +kernel, zz_ins [110, 112, 114, 116, 118, 120] (by decide +kernel) (by decide +kernel), by decide +kernel, fun k hk => ?_⟩
  match k, hk with
  | 0, _ => exact Or.inr ⟨_, rfl⟩
  | 1, _ => exact Or.inr ⟨_, rfl⟩
  | 2, _ => exact Or.inl rfl
  | 3, _ => exact Or.inl ⟨_, rfl⟩
  | 4, _ => exact Or.inl rfl
  | 5, _ => exact Or.inr rfl
  | k + 6, hk => exact absurd hk (by omega)
set_option maxRecDepth 20000 in
theorem ok_Q : zz_okD 6 "SegmentTrees$Position" zf_Q 3 := by
  refine ⟨by decide, rfl, by decide +kernel, by decide +kernel, zz_ins [132, 134, 136] (by decide +kernel) (by decide +kernel), by decide +kernel, fun k hk => ?_⟩
  match k, hk with
  | 0, _ => exact Or.inl ⟨_, rfl⟩
  | 1, _ => exact Or.inr rfl
  | 2, _ => exact Or.inr rfl
  | k + 3, hk => exact absurd hk (by omega)
set_option maxRecDepth 20000 in
theorem ok_M : zz_okD 7 "SegmentTreesModel" zf_M 32 := by
  refine ⟨by decide, rfl, by decide +kernel, by decide +kernel, zz_ins [751, 753, 755, 757, 759, 761, 763, 765, 767, 769, 771, 773, 775, 777, 779, 781, 783, 785, 787, 789, 791, 793, 795, 797, 799, 801, 803, 805, 807, 809, 811, 813] (by decide +kernel) (by decide +kernel), by decide +kernel, fun k hk => ?_⟩
  match k, hk with
  | 0, _ => exact Or.inl rfl
  | 1, _ => exact Or.inr ⟨_, rfl⟩
  | 2, _ => exact Or.inr ⟨_, rfl⟩
  | 3, _ => exact Or.inr ⟨_, rfl⟩
  | 4, _ => exact Or.inr ⟨_, rfl⟩
  | 5, _ => exact Or.inr ⟨_, rfl⟩
  | 6, _ => exact Or.inr ⟨_, rfl⟩
  | 7, _ => exact Or.inr ⟨_, rfl⟩
  | 8, _ => exact Or.inr ⟨_, rfl⟩
  | 9, _ => exact Or.inl rfl
  | 10, _ => exact Or.inl rfl
  | 11, _ => exact Or.inr rfl
  | 12, _ => exact Or.inl rfl
  | 13, _ => exact Or.inl rfl
  | 14, _ => exact Or.inr ⟨_, rfl⟩
  | 15, _ => exact Or.inr ⟨_, rfl⟩
  | 16, _ => exact Or.inr ⟨_, rfl⟩
  | 17, _ => exact Or.inr ⟨_, rfl⟩
  | 18, _ => exact Or.inr ⟨_, rfl⟩
  | 19, _ => exact Or.inr ⟨_, rfl⟩
  | 20, _ => exact Or.inr ⟨_, rfl⟩
  | 21, _ => exact Or.inr ⟨_, rfl⟩
  | 22, _ => exact Or.inr ⟨_, rfl⟩
  | 23, _ => exact Or.inr ⟨_, rfl⟩
  | 24, _ => exact Or.inr ⟨_, rfl⟩
  | 25, _ => exact Or.inr ⟨_, rfl⟩
  | 26, _ => exact Or.inr ⟨_, rfl⟩
  | 27, _ => exact Or.inr ⟨_, rfl⟩
  | 28, _ => exact Or.inl rfl
  | 29, _ => exact Or.inl rfl
  | 30, _ => exact Or.inl rfl
  | 31, _ => exact Or.inl rfl
  | k + 32, hk => exact absurd hk (by omega)
theorem zz_okC (ci : Nat) (C : String) (T : u_T) (N : Nat) (h : zz_cl[ci]? = some (C, T, N)) : zz_okD ci C T N := by
  match ci, h with
  | 0, h => cases h; exact ok_T
  | 1, h => cases h; exact ok_K
  | 2, h => cases h; exact ok_S
  | 3, h => cases h; exact ok_L
  | 4, h => cases h; exact ok_P
  | 5, h => cases h; exact ok_O
  | 6, h => cases h; exact ok_Q
  | 7, h => cases h; exact ok_M
  | k + 8, h => exact absurd h (by simp [zz_cl])

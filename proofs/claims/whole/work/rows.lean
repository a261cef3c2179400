section
/-- a private method of a class that the tables say can be made, by its rows of tables_1 -/
def lw_okq (q : MethodName × Nat) : Prop := (q.1.cls ≠ "java/lang/invoke/MethodHandle" ∧ q.1.cls ≠ "java/lang/invoke/VarHandle") ∧ Cond.instantiable q.1.cls q.2 ∈ tables_1 ∧ Cond.privateMethod q.1 ∈ tables_1 ∧ Cond.instanceMethod q.1 ∈ tables_1
theorem lw_p0 : lw_okq (⟨"SegmentTrees$Path", "lowestStated", "()I"⟩, 1) := ⟨⟨by decide +kernel, by decide +kernel⟩, List.mem_of_getElem? (i := 27) (by decide +kernel), List.mem_of_getElem? (i := 167) (by decide +kernel), List.mem_of_getElem? (i := 168) (by decide +kernel)⟩
theorem lw_p1 : lw_okq (⟨"SegmentTrees", "got", "(LSegmentTrees$Segment;Z)I"⟩, 8) := ⟨⟨by decide +kernel, by decide +kernel⟩, List.mem_of_getElem? (i := 17) (by decide +kernel), List.mem_of_getElem? (i := 187) (by decide +kernel), List.mem_of_getElem? (i := 188) (by decide +kernel)⟩
theorem lw_p2 : lw_okq (⟨"java/lang/Throwable", "fillInStackTrace", "(I)Ljava/lang/Throwable;"⟩, 6) := ⟨⟨by decide +kernel, by decide +kernel⟩, List.mem_of_getElem? (i := 293) (by decide +kernel), List.mem_of_getElem? (i := 291) (by decide +kernel), List.mem_of_getElem? (i := 292) (by decide +kernel)⟩
theorem lw_p3 : lw_okq (⟨"SegmentTrees", "kindOf", "(I)LSegmentTrees$Kind;"⟩, 8) := ⟨⟨by decide +kernel, by decide +kernel⟩, List.mem_of_getElem? (i := 17) (by decide +kernel), List.mem_of_getElem? (i := 323) (by decide +kernel), List.mem_of_getElem? (i := 324) (by decide +kernel)⟩
theorem lw_p4 : lw_okq (⟨"SegmentTrees", "refuseAfterInsert", "()V"⟩, 8) := ⟨⟨by decide +kernel, by decide +kernel⟩, List.mem_of_getElem? (i := 17) (by decide +kernel), List.mem_of_getElem? (i := 347) (by decide +kernel), List.mem_of_getElem? (i := 348) (by decide +kernel)⟩
theorem lw_p5 : lw_okq (⟨"SegmentTrees", "declaredKind", "(I)LSegmentTrees$Kind;"⟩, 8) := ⟨⟨by decide +kernel, by decide +kernel⟩, List.mem_of_getElem? (i := 17) (by decide +kernel), List.mem_of_getElem? (i := 403) (by decide +kernel), List.mem_of_getElem? (i := 404) (by decide +kernel)⟩
theorem lw_p6 : lw_okq (⟨"SegmentTrees", "joinTwin", "(LSegmentTrees$Segment;)V"⟩, 8) := ⟨⟨by decide +kernel, by decide +kernel⟩, List.mem_of_getElem? (i := 17) (by decide +kernel), List.mem_of_getElem? (i := 570) (by decide +kernel), List.mem_of_getElem? (i := 571) (by decide +kernel)⟩
theorem lw_p7 : lw_okq (⟨"SegmentTrees$Order", "entryOf", "(LSegmentTrees$Segment;)I"⟩, 6) := ⟨⟨by decide +kernel, by decide +kernel⟩, List.mem_of_getElem? (i := 61) (by decide +kernel), List.mem_of_getElem? (i := 582) (by decide +kernel), List.mem_of_getElem? (i := 583) (by decide +kernel)⟩
theorem lw_p8 : lw_okq (⟨"SegmentTrees$Order", "findValues", "()V"⟩, 6) := ⟨⟨by decide +kernel, by decide +kernel⟩, List.mem_of_getElem? (i := 61) (by decide +kernel), List.mem_of_getElem? (i := 596) (by decide +kernel), List.mem_of_getElem? (i := 597) (by decide +kernel)⟩
theorem lw_p9 : lw_okq (⟨"SegmentTrees$Order", "arrangeRoots", "(LSegmentTrees$Kind;)V"⟩, 6) := ⟨⟨by decide +kernel, by decide +kernel⟩, List.mem_of_getElem? (i := 61) (by decide +kernel), List.mem_of_getElem? (i := 613) (by decide +kernel), List.mem_of_getElem? (i := 614) (by decide +kernel)⟩
theorem lw_p10 : lw_okq (⟨"SegmentTrees$Order", "leastRootAfter", "(LSegmentTrees$Kind;LSegmentTrees$Segment;)I"⟩, 6) := ⟨⟨by decide +kernel, by decide +kernel⟩, List.mem_of_getElem? (i := 61) (by decide +kernel), List.mem_of_getElem? (i := 617) (by decide +kernel), List.mem_of_getElem? (i := 618) (by decide +kernel)⟩
theorem lw_p11 : lw_okq (⟨"SegmentTrees$Order", "copyTree", "(II)I"⟩, 6) := ⟨⟨by decide +kernel, by decide +kernel⟩, List.mem_of_getElem? (i := 61) (by decide +kernel), List.mem_of_getElem? (i := 625) (by decide +kernel), List.mem_of_getElem? (i := 626) (by decide +kernel)⟩
theorem lw_p12 : lw_okq (⟨"SegmentTreesModel", "begin", "()V"⟩, 32) := ⟨⟨by decide +kernel, by decide +kernel⟩, List.mem_of_getElem? (i := 680) (by decide +kernel), List.mem_of_getElem? (i := 793) (by decide +kernel), List.mem_of_getElem? (i := 794) (by decide +kernel)⟩
theorem lw_p13 : lw_okq (⟨"SegmentTreesModel", "isType", "(I)Z"⟩, 32) := ⟨⟨by decide +kernel, by decide +kernel⟩, List.mem_of_getElem? (i := 680) (by decide +kernel), List.mem_of_getElem? (i := 797) (by decide +kernel), List.mem_of_getElem? (i := 798) (by decide +kernel)⟩
theorem lw_p14 : lw_okq (⟨"SegmentTreesModel", "hasWord", "(II)Z"⟩, 32) := ⟨⟨by decide +kernel, by decide +kernel⟩, List.mem_of_getElem? (i := 680) (by decide +kernel), List.mem_of_getElem? (i := 809) (by decide +kernel), List.mem_of_getElem? (i := 810) (by decide +kernel)⟩
theorem lw_p15 : lw_okq (⟨"SegmentTreesModel", "sort", "()V"⟩, 32) := ⟨⟨by decide +kernel, by decide +kernel⟩, List.mem_of_getElem? (i := 680) (by decide +kernel), List.mem_of_getElem? (i := 829) (by decide +kernel), List.mem_of_getElem? (i := 830) (by decide +kernel)⟩
def lw_privs_1 : List (MethodName × Nat) := [(⟨"SegmentTrees$Path", "lowestStated", "()I"⟩, 1), (⟨"SegmentTrees", "got", "(LSegmentTrees$Segment;Z)I"⟩, 8), (⟨"java/lang/Throwable", "fillInStackTrace", "(I)Ljava/lang/Throwable;"⟩, 6), (⟨"SegmentTrees", "kindOf", "(I)LSegmentTrees$Kind;"⟩, 8), (⟨"SegmentTrees", "refuseAfterInsert", "()V"⟩, 8), (⟨"SegmentTrees", "declaredKind", "(I)LSegmentTrees$Kind;"⟩, 8), (⟨"SegmentTrees", "joinTwin", "(LSegmentTrees$Segment;)V"⟩, 8), (⟨"SegmentTrees$Order", "entryOf", "(LSegmentTrees$Segment;)I"⟩, 6), (⟨"SegmentTrees$Order", "findValues", "()V"⟩, 6), (⟨"SegmentTrees$Order", "arrangeRoots", "(LSegmentTrees$Kind;)V"⟩, 6), (⟨"SegmentTrees$Order", "leastRootAfter", "(LSegmentTrees$Kind;LSegmentTrees$Segment;)I"⟩, 6), (⟨"SegmentTrees$Order", "copyTree", "(II)I"⟩, 6), (⟨"SegmentTreesModel", "begin", "()V"⟩, 32), (⟨"SegmentTreesModel", "isType", "(I)Z"⟩, 32), (⟨"SegmentTreesModel", "hasWord", "(II)Z"⟩, 32), (⟨"SegmentTreesModel", "sort", "()V"⟩, 32)]
theorem lw_r1 : ∀ q ∈ lw_privs_1, lw_okq q := List.forall_mem_cons.mpr ⟨lw_p0, List.forall_mem_cons.mpr ⟨lw_p1, List.forall_mem_cons.mpr ⟨lw_p2, List.forall_mem_cons.mpr ⟨lw_p3, List.forall_mem_cons.mpr ⟨lw_p4, List.forall_mem_cons.mpr ⟨lw_p5, List.forall_mem_cons.mpr ⟨lw_p6, List.forall_mem_cons.mpr ⟨lw_p7, List.forall_mem_cons.mpr ⟨lw_p8, List.forall_mem_cons.mpr ⟨lw_p9, List.forall_mem_cons.mpr ⟨lw_p10, List.forall_mem_cons.mpr ⟨lw_p11, List.forall_mem_cons.mpr ⟨lw_p12, List.forall_mem_cons.mpr ⟨lw_p13, List.forall_mem_cons.mpr ⟨lw_p14, List.forall_mem_cons.mpr ⟨lw_p15, fun _ h => absurd h List.not_mem_nil⟩⟩⟩⟩⟩⟩⟩⟩⟩⟩⟩⟩⟩⟩⟩⟩
theorem lw_p16 : lw_okq (⟨"SegmentTreesModel", "findValues", "()V"⟩, 32) := ⟨⟨by decide +kernel, by decide +kernel⟩, List.mem_of_getElem? (i := 680) (by decide +kernel), List.mem_of_getElem? (i := 833) (by decide +kernel), List.mem_of_getElem? (i := 834) (by decide +kernel)⟩
theorem lw_p17 : lw_okq (⟨"SegmentTreesModel", "rootOf", "(I)I"⟩, 32) := ⟨⟨by decide +kernel, by decide +kernel⟩, List.mem_of_getElem? (i := 680) (by decide +kernel), List.mem_of_getElem? (i := 838) (by decide +kernel), List.mem_of_getElem? (i := 839) (by decide +kernel)⟩
theorem lw_p18 : lw_okq (⟨"SegmentTreesModel", "isFirst", "(II)Z"⟩, 32) := ⟨⟨by decide +kernel, by decide +kernel⟩, List.mem_of_getElem? (i := 680) (by decide +kernel), List.mem_of_getElem? (i := 842) (by decide +kernel), List.mem_of_getElem? (i := 843) (by decide +kernel)⟩
theorem lw_p19 : lw_okq (⟨"SegmentTreesModel", "atLevel", "(II)I"⟩, 32) := ⟨⟨by decide +kernel, by decide +kernel⟩, List.mem_of_getElem? (i := 680) (by decide +kernel), List.mem_of_getElem? (i := 846) (by decide +kernel), List.mem_of_getElem? (i := 847) (by decide +kernel)⟩
theorem lw_p20 : lw_okq (⟨"SegmentTreesModel", "isSiblingFirst", "(II)Z"⟩, 32) := ⟨⟨by decide +kernel, by decide +kernel⟩, List.mem_of_getElem? (i := 680) (by decide +kernel), List.mem_of_getElem? (i := 850) (by decide +kernel), List.mem_of_getElem? (i := 851) (by decide +kernel)⟩
theorem lw_p21 : lw_okq (⟨"SegmentTreesModel", "rootType", "(I)I"⟩, 32) := ⟨⟨by decide +kernel, by decide +kernel⟩, List.mem_of_getElem? (i := 680) (by decide +kernel), List.mem_of_getElem? (i := 854) (by decide +kernel), List.mem_of_getElem? (i := 855) (by decide +kernel)⟩
theorem lw_p22 : lw_okq (⟨"SegmentTreesModel", "get", "(IIZ)I"⟩, 32) := ⟨⟨by decide +kernel, by decide +kernel⟩, List.mem_of_getElem? (i := 680) (by decide +kernel), List.mem_of_getElem? (i := 858) (by decide +kernel), List.mem_of_getElem? (i := 859) (by decide +kernel)⟩
theorem lw_p23 : lw_okq (⟨"SegmentTreesModel", "isBelow", "(II)Z"⟩, 32) := ⟨⟨by decide +kernel, by decide +kernel⟩, List.mem_of_getElem? (i := 680) (by decide +kernel), List.mem_of_getElem? (i := 862) (by decide +kernel), List.mem_of_getElem? (i := 863) (by decide +kernel)⟩
theorem lw_p24 : lw_okq (⟨"SegmentTreesModel", "meets", "(I)Z"⟩, 32) := ⟨⟨by decide +kernel, by decide +kernel⟩, List.mem_of_getElem? (i := 680) (by decide +kernel), List.mem_of_getElem? (i := 866) (by decide +kernel), List.mem_of_getElem? (i := 867) (by decide +kernel)⟩
theorem lw_p25 : lw_okq (⟨"SegmentTreesModel", "fitsAbove", "(I)Z"⟩, 32) := ⟨⟨by decide +kernel, by decide +kernel⟩, List.mem_of_getElem? (i := 680) (by decide +kernel), List.mem_of_getElem? (i := 870) (by decide +kernel), List.mem_of_getElem? (i := 871) (by decide +kernel)⟩
theorem lw_p26 : lw_okq (⟨"SegmentTreesModel", "fits", "(I)Z"⟩, 32) := ⟨⟨by decide +kernel, by decide +kernel⟩, List.mem_of_getElem? (i := 680) (by decide +kernel), List.mem_of_getElem? (i := 874) (by decide +kernel), List.mem_of_getElem? (i := 875) (by decide +kernel)⟩
theorem lw_p27 : lw_okq (⟨"SegmentTreesModel", "behind", "()I"⟩, 32) := ⟨⟨by decide +kernel, by decide +kernel⟩, List.mem_of_getElem? (i := 680) (by decide +kernel), List.mem_of_getElem? (i := 885) (by decide +kernel), List.mem_of_getElem? (i := 886) (by decide +kernel)⟩
theorem lw_p28 : lw_okq (⟨"SegmentTreesModel", "indexOf", "(I)I"⟩, 32) := ⟨⟨by decide +kernel, by decide +kernel⟩, List.mem_of_getElem? (i := 680) (by decide +kernel), List.mem_of_getElem? (i := 889) (by decide +kernel), List.mem_of_getElem? (i := 890) (by decide +kernel)⟩
theorem lw_p29 : lw_okq (⟨"SegmentTreesModel", "refuse", "(I)I"⟩, 32) := ⟨⟨by decide +kernel, by decide +kernel⟩, List.mem_of_getElem? (i := 680) (by decide +kernel), List.mem_of_getElem? (i := 897) (by decide +kernel), List.mem_of_getElem? (i := 898) (by decide +kernel)⟩
theorem lw_p30 : lw_okq (⟨"SegmentTreesModel", "findParent", "(I)I"⟩, 32) := ⟨⟨by decide +kernel, by decide +kernel⟩, List.mem_of_getElem? (i := 680) (by decide +kernel), List.mem_of_getElem? (i := 921) (by decide +kernel), List.mem_of_getElem? (i := 922) (by decide +kernel)⟩
theorem lw_p31 : lw_okq (⟨"SegmentTreesModel", "isTaken", "(II)Z"⟩, 32) := ⟨⟨by decide +kernel, by decide +kernel⟩, List.mem_of_getElem? (i := 680) (by decide +kernel), List.mem_of_getElem? (i := 925) (by decide +kernel), List.mem_of_getElem? (i := 926) (by decide +kernel)⟩
def lw_privs_2 : List (MethodName × Nat) := [(⟨"SegmentTreesModel", "findValues", "()V"⟩, 32), (⟨"SegmentTreesModel", "rootOf", "(I)I"⟩, 32), (⟨"SegmentTreesModel", "isFirst", "(II)Z"⟩, 32), (⟨"SegmentTreesModel", "atLevel", "(II)I"⟩, 32), (⟨"SegmentTreesModel", "isSiblingFirst", "(II)Z"⟩, 32), (⟨"SegmentTreesModel", "rootType", "(I)I"⟩, 32), (⟨"SegmentTreesModel", "get", "(IIZ)I"⟩, 32), (⟨"SegmentTreesModel", "isBelow", "(II)Z"⟩, 32), (⟨"SegmentTreesModel", "meets", "(I)Z"⟩, 32), (⟨"SegmentTreesModel", "fitsAbove", "(I)Z"⟩, 32), (⟨"SegmentTreesModel", "fits", "(I)Z"⟩, 32), (⟨"SegmentTreesModel", "behind", "()I"⟩, 32), (⟨"SegmentTreesModel", "indexOf", "(I)I"⟩, 32), (⟨"SegmentTreesModel", "refuse", "(I)I"⟩, 32), (⟨"SegmentTreesModel", "findParent", "(I)I"⟩, 32), (⟨"SegmentTreesModel", "isTaken", "(II)Z"⟩, 32)]
theorem lw_r2 : ∀ q ∈ lw_privs_2, lw_okq q := List.forall_mem_cons.mpr ⟨lw_p16, List.forall_mem_cons.mpr ⟨lw_p17, List.forall_mem_cons.mpr ⟨lw_p18, List.forall_mem_cons.mpr ⟨lw_p19, List.forall_mem_cons.mpr ⟨lw_p20, List.forall_mem_cons.mpr ⟨lw_p21, List.forall_mem_cons.mpr ⟨lw_p22, List.forall_mem_cons.mpr ⟨lw_p23, List.forall_mem_cons.mpr ⟨lw_p24, List.forall_mem_cons.mpr ⟨lw_p25, List.forall_mem_cons.mpr ⟨lw_p26, List.forall_mem_cons.mpr ⟨lw_p27, List.forall_mem_cons.mpr ⟨lw_p28, List.forall_mem_cons.mpr ⟨lw_p29, List.forall_mem_cons.mpr ⟨lw_p30, List.forall_mem_cons.mpr ⟨lw_p31, fun _ h => absurd h List.not_mem_nil⟩⟩⟩⟩⟩⟩⟩⟩⟩⟩⟩⟩⟩⟩⟩⟩
theorem lw_p32 : lw_okq (⟨"SegmentTreesModel", "findTwin", "(I)I"⟩, 32) := ⟨⟨by decide +kernel, by decide +kernel⟩, List.mem_of_getElem? (i := 680) (by decide +kernel), List.mem_of_getElem? (i := 929) (by decide +kernel), List.mem_of_getElem? (i := 930) (by decide +kernel)⟩
theorem lw_p33 : lw_okq (⟨"SegmentTreesModel", "putWords", "(I)V"⟩, 32) := ⟨⟨by decide +kernel, by decide +kernel⟩, List.mem_of_getElem? (i := 680) (by decide +kernel), List.mem_of_getElem? (i := 933) (by decide +kernel), List.mem_of_getElem? (i := 934) (by decide +kernel)⟩
def lw_privs_3 : List (MethodName × Nat) := [(⟨"SegmentTreesModel", "findTwin", "(I)I"⟩, 32), (⟨"SegmentTreesModel", "putWords", "(I)V"⟩, 32)]
theorem lw_r3 : ∀ q ∈ lw_privs_3, lw_okq q := List.forall_mem_cons.mpr ⟨lw_p32, List.forall_mem_cons.mpr ⟨lw_p33, fun _ h => absurd h List.not_mem_nil⟩⟩
def lw_privs : List (MethodName × Nat) := lw_privs_1 ++ (lw_privs_2 ++ (lw_privs_3))
def lw_tbl : List Cond := k2_sels lw_privs ++ tables_1
theorem lw_privs_ok : ∀ q ∈ lw_privs, lw_okq q := by
  show ∀ q ∈ lw_privs_1 ++ (lw_privs_2 ++ (lw_privs_3)), lw_okq q
  exact List.forall_mem_append.mpr ⟨lw_r1, List.forall_mem_append.mpr ⟨lw_r2, lw_r3⟩⟩

/-- the words that stand however the tables warm -/
def zz_gw (w : Cond) : Bool := match w with
  | .methodLinkNest .. => true
  | .declares _ => true
  | .castable _ _ => true
  | .arrayOver (.object _) => true
  | w => goodWord w
theorem zz_payW {w : Cond} {args a' : Array Value} {s U : State} (hg : zz_gw w = true) (h : w.before args s = true) (hW : s.WarmedH U.vm) : w.before a' U = true := by
  unfold zz_gw at hg
  split at hg
  · exact va_Nw.use rfl (va_Nw.warmM hW (va_Nw.of rfl h))
  · exact va_Nw.use rfl (va_Nw.warmD hW (va_Nw.of rfl h))
  · exact va_Nw.use rfl (va_Nw.warmC hW (va_Nw.of rfl h))
  · exact va_AO.use ((va_AO.of h).moved hW.alike)
  · exact word_at hW (good_of_word hg) h
def zz_all : List Cond := lw_tbl.filter zz_gw
theorem zz_good (w : Cond) (h : w ∈ zz_all) : zz_gw w = true := (List.mem_filter.mp h).2
theorem zz_tbl (w : Cond) (h : w ∈ zz_all) : w ∈ lw_tbl := (List.mem_filter.mp h).1
theorem zz_in {i : Nat} {w : Cond} (h : lw_tbl[i]? = some w) (hg : zz_gw w = true) : w ∈ zz_all := List.mem_filter.mpr ⟨List.mem_of_getElem? h, hg⟩
theorem zz_ins (ps : List Nat) {ws : List Cond} (hp : ws = ps.filterMap (fun i => lw_tbl[i]?)) (hg : ws.all zz_gw = true) : ∀ w ∈ ws, w ∈ zz_all := by
  intro w hw
  have h1 := List.all_eq_true.mp hg w hw
  rw [hp] at hw
  obtain ⟨i, -, hi⟩ := List.mem_filterMap.mp hw
  exact zz_in hi h1
end
section
def zf_T : u_T := fun k => match k with
  | 0 => ("SegmentTrees", "kinds", "[LSegmentTrees$Kind;", true)
  | 1 => ("SegmentTrees", "workWords", "[I", true)
  | 2 => ("SegmentTrees", "stated", "LSegmentTrees$Path;", true)
  | 3 => ("SegmentTrees", "order", "LSegmentTrees$Order;", true)
  | 4 => ("SegmentTrees", "position", "LSegmentTrees$Position;", true)
  | 5 => ("SegmentTrees", "held", "LSegmentTrees$Segment;", false)
  | 6 => ("SegmentTrees", "fixed", "LSegmentTrees$Segment;", false)
  | _ => ("SegmentTrees", "lastNumber", "I", false)
def zt_T : Nat → FieldType := fun k => match k with
  | 0 => .array (.object "SegmentTrees$Kind")
  | 1 => .array .int
  | 2 => .object "SegmentTrees$Path"
  | 3 => .object "SegmentTrees$Order"
  | 4 => .object "SegmentTrees$Position"
  | 5 => .object "SegmentTrees$Segment"
  | 6 => .object "SegmentTrees$Segment"
  | _ => .int
def zs_T : Nat → Option Nat := fun k => match k with
  | 0 => some 101
  | 1 => some 90
  | 2 => some 4
  | 3 => some 5
  | 4 => some 6
  | 5 => some 2
  | 6 => some 2
  | _ => none
def zf_K : u_T := fun k => match k with
  | 0 => ("SegmentTrees$Kind", "code", "I", true)
  | 1 => ("SegmentTrees$Kind", "parent", "LSegmentTrees$Kind;", true)
  | 2 => ("SegmentTrees$Kind", "level", "I", true)
  | 3 => ("SegmentTrees$Kind", "length", "I", true)
  | 4 => ("SegmentTrees$Kind", "sequence", "I", true)
  | 5 => ("SegmentTrees$Kind", "unique", "Z", true)
  | 6 => ("SegmentTrees$Kind", "tiesLast", "Z", true)
  | _ => ("SegmentTrees$Kind", "twin", "LSegmentTrees$Kind;", false)
def zt_K : Nat → FieldType := fun k => match k with
  | 0 => .int
  | 1 => .object "SegmentTrees$Kind"
  | 2 => .int
  | 3 => .int
  | 4 => .int
  | 5 => .boolean
  | 6 => .boolean
  | _ => .object "SegmentTrees$Kind"
def zs_K : Nat → Option Nat := fun k => match k with
  | 0 => none
  | 1 => some 1
  | 2 => none
  | 3 => none
  | 4 => none
  | 5 => none
  | 6 => none
  | _ => some 1
def zf_S : u_T := fun k => match k with
  | 0 => ("SegmentTrees$Segment", "number", "I", true)
  | 1 => ("SegmentTrees$Segment", "kind", "LSegmentTrees$Kind;", true)
  | 2 => ("SegmentTrees$Segment", "parent", "LSegmentTrees$Segment;", true)
  | 3 => ("SegmentTrees$Segment", "words", "[I", true)
  | 4 => ("SegmentTrees$Segment", "twin", "LSegmentTrees$Segment;", false)
  | 5 => ("SegmentTrees$Segment", "hasValue", "Z", false)
  | _ => ("SegmentTrees$Segment", "value", "I", false)
def zt_S : Nat → FieldType := fun k => match k with
  | 0 => .int
  | 1 => .object "SegmentTrees$Kind"
  | 2 => .object "SegmentTrees$Segment"
  | 3 => .array .int
  | 4 => .object "SegmentTrees$Segment"
  | 5 => .boolean
  | _ => .int
def zs_S : Nat → Option Nat := fun k => match k with
  | 0 => none
  | 1 => some 1
  | 2 => some 2
  | 3 => some 90
  | 4 => some 2
  | 5 => none
  | _ => none
def zf_L : u_T := fun k => match k with
  | 0 => ("SegmentTrees$PathLevel", "kind", "LSegmentTrees$Kind;", false)
  | 1 => ("SegmentTrees$PathLevel", "conditions", "I", false)
  | 2 => ("SegmentTrees$PathLevel", "words", "[I", true)
  | 3 => ("SegmentTrees$PathLevel", "operations", "[I", true)
  | _ => ("SegmentTrees$PathLevel", "numbers", "[I", true)
def zt_L : Nat → FieldType := fun k => match k with
  | 0 => .object "SegmentTrees$Kind"
  | 1 => .int
  | 2 => .array .int
  | 3 => .array .int
  | _ => .array .int
def zs_L : Nat → Option Nat := fun k => match k with
  | 0 => some 1
  | 1 => none
  | 2 => some 90
  | 3 => some 90
  | _ => some 90
def zf_P : u_T := fun k => match k with
  | _ => ("SegmentTrees$Path", "levels", "[LSegmentTrees$PathLevel;", true)
def zt_P : Nat → FieldType := fun k => match k with
  | _ => .array (.object "SegmentTrees$PathLevel")
def zs_P : Nat → Option Nat := fun k => match k with
  | _ => some 103
def zf_O : u_T := fun k => match k with
  | 0 => ("SegmentTrees$Order", "bySequence", "[LSegmentTrees$Segment;", true)
  | 1 => ("SegmentTrees$Order", "now", "[LSegmentTrees$Segment;", true)
  | 2 => ("SegmentTrees$Order", "size", "I", false)
  | 3 => ("SegmentTrees$Order", "secondKind", "LSegmentTrees$Kind;", false)
  | 4 => ("SegmentTrees$Order", "secondWord", "I", false)
  | _ => ("SegmentTrees$Order", "secondOn", "Z", false)
def zt_O : Nat → FieldType := fun k => match k with
  | 0 => .array (.object "SegmentTrees$Segment")
  | 1 => .array (.object "SegmentTrees$Segment")
  | 2 => .int
  | 3 => .object "SegmentTrees$Kind"
  | 4 => .int
  | _ => .boolean
def zs_O : Nat → Option Nat := fun k => match k with
  | 0 => some 102
  | 1 => some 102
  | 2 => none
  | 3 => some 1
  | 4 => none
  | _ => none
def zf_Q : u_T := fun k => match k with
  | 0 => ("SegmentTrees$Position", "mark", "LSegmentTrees$Segment;", false)
  | 1 => ("SegmentTrees$Position", "atMark", "Z", false)
  | _ => ("SegmentTrees$Position", "behindAll", "Z", false)
def zt_Q : Nat → FieldType := fun k => match k with
  | 0 => .object "SegmentTrees$Segment"
  | 1 => .boolean
  | _ => .boolean
def zs_Q : Nat → Option Nat := fun k => match k with
  | 0 => some 2
  | 1 => none
  | _ => none
def zf_M : u_T := fun k => match k with
  | 0 => ("SegmentTreesModel", "thrown", "I", false)
  | 1 => ("SegmentTreesModel", "declared", "[Z", true)
  | 2 => ("SegmentTreesModel", "above", "[I", true)
  | 3 => ("SegmentTreesModel", "level", "[I", true)
  | 4 => ("SegmentTreesModel", "length", "[I", true)
  | 5 => ("SegmentTreesModel", "sequence", "[I", true)
  | 6 => ("SegmentTreesModel", "isUnique", "[Z", true)
  | 7 => ("SegmentTreesModel", "isLast", "[Z", true)
  | 8 => ("SegmentTreesModel", "twinType", "[I", true)
  | 9 => ("SegmentTreesModel", "secondType", "I", false)
  | 10 => ("SegmentTreesModel", "secondWord", "I", false)
  | 11 => ("SegmentTreesModel", "secondOn", "Z", false)
  | 12 => ("SegmentTreesModel", "numbers", "I", false)
  | 13 => ("SegmentTreesModel", "many", "I", false)
  | 14 => ("SegmentTreesModel", "number", "[I", true)
  | 15 => ("SegmentTreesModel", "kind", "[I", true)
  | 16 => ("SegmentTreesModel", "parent", "[I", true)
  | 17 => ("SegmentTreesModel", "twin", "[I", true)
  | 18 => ("SegmentTreesModel", "words", "[I", true)
  | 19 => ("SegmentTreesModel", "order", "[I", true)
  | 20 => ("SegmentTreesModel", "value", "[J", true)
  | 21 => ("SegmentTreesModel", "goes", "[Z", true)
  | 22 => ("SegmentTreesModel", "stated", "[I", true)
  | 23 => ("SegmentTreesModel", "conditions", "[I", true)
  | 24 => ("SegmentTreesModel", "onWord", "[I", true)
  | 25 => ("SegmentTreesModel", "operation", "[I", true)
  | 26 => ("SegmentTreesModel", "against", "[I", true)
  | 27 => ("SegmentTreesModel", "work", "[I", true)
  | 28 => ("SegmentTreesModel", "how", "I", false)
  | 29 => ("SegmentTreesModel", "where", "I", false)
  | 30 => ("SegmentTreesModel", "held", "I", false)
  | _ => ("SegmentTreesModel", "fixed", "I", false)
def zt_M : Nat → FieldType := fun k => match k with
  | 0 => .int
  | 1 => .array .boolean
  | 2 => .array .int
  | 3 => .array .int
  | 4 => .array .int
  | 5 => .array .int
  | 6 => .array .boolean
  | 7 => .array .boolean
  | 8 => .array .int
  | 9 => .int
  | 10 => .int
  | 11 => .boolean
  | 12 => .int
  | 13 => .int
  | 14 => .array .int
  | 15 => .array .int
  | 16 => .array .int
  | 17 => .array .int
  | 18 => .array .int
  | 19 => .array .int
  | 20 => .array .long
  | 21 => .array .boolean
  | 22 => .array .int
  | 23 => .array .int
  | 24 => .array .int
  | 25 => .array .int
  | 26 => .array .int
  | 27 => .array .int
  | 28 => .int
  | 29 => .int
  | 30 => .int
  | _ => .int
def zs_M : Nat → Option Nat := fun k => match k with
  | 0 => none
  | 1 => some 91
  | 2 => some 90
  | 3 => some 90
  | 4 => some 90
  | 5 => some 90
  | 6 => some 91
  | 7 => some 91
  | 8 => some 90
  | 9 => none
  | 10 => none
  | 11 => none
  | 12 => none
  | 13 => none
  | 14 => some 90
  | 15 => some 90
  | 16 => some 90
  | 17 => some 90
  | 18 => some 90
  | 19 => some 90
  | 20 => some 92
  | 21 => some 91
  | 22 => some 90
  | 23 => some 90
  | 24 => some 90
  | 25 => some 90
  | 26 => some 90
  | 27 => some 90
  | 28 => none
  | 29 => none
  | 30 => none
  | _ => none
def zz_cl : List vw_C := [("SegmentTrees", zf_T, 8), ("SegmentTrees$Kind", zf_K, 8), ("SegmentTrees$Segment", zf_S, 7), ("SegmentTrees$PathLevel", zf_L, 5), ("SegmentTrees$Path", zf_P, 1), ("SegmentTrees$Order", zf_O, 6), ("SegmentTrees$Position", zf_Q, 3), ("SegmentTreesModel", zf_M, 32)]
def zz_nf : Nat → Nat := fun c => match c with
  | 0 => 8
  | 1 => 8
  | 2 => 7
  | 3 => 5
  | 4 => 1
  | 5 => 6
  | 6 => 3
  | 7 => 32
  | _ => 0
def zz_ft : Nat → Nat → Option Nat := fun c => match c with
  | 0 => zs_T
  | 1 => zs_K
  | 2 => zs_S
  | 3 => zs_L
  | 4 => zs_P
  | 5 => zs_O
  | 6 => zs_Q
  | 7 => zs_M
  | _ => fun _ => none
def zz_fty : Nat → Nat → FieldType := fun c => match c with
  | 0 => zt_T
  | 1 => zt_K
  | 2 => zt_S
  | 3 => zt_L
  | 4 => zt_P
  | 5 => zt_O
  | 6 => zt_Q
  | 7 => zt_M
  | _ => fun _ => .int
def zz_ats (DA : Nat → ClassId) : List (ClassId × FieldType) := [(DA 90, .int), (DA 91, .boolean), (DA 92, .long), (DA 101, .object "SegmentTrees$Kind"), (DA 102, .object "SegmentTrees$Segment"), (DA 103, .object "SegmentTrees$PathLevel")]
def zz_ftok (t : Option Nat) (ty : FieldType) : Prop := match t with
  | none => ty = .int ∨ ty = .boolean
  | some _ => (∃ n, ty = .object n) ∨ ∃ n, ty = .array n
def zz_okD (ci : Nat) (C : String) (T : u_T) (N : Nat) : Prop := ci < 90 ∧ zz_nf ci = N ∧ (∀ k, k < N → parseFieldDescriptor (T k).2.2.1 = some (zz_fty ci k)) ∧ (∀ a, a < N → ∀ b, b < N → a ≠ b → (T a).2.1 ≠ (T b).2.1) ∧ (∀ w ∈ u_ws C T N, w ∈ zz_all) ∧ (∀ k, k < N → (T k).1 = C) ∧ ∀ k, k < N → zz_ftok (zz_ft ci k) (zz_fty ci k)
set_option maxRecDepth 20000 in
theorem ok_T : zz_okD 0 "SegmentTrees" zf_T 8 := by
  refine ⟨by decide, rfl, by decide +kernel, by decide +kernel, zz_ins [147, 149, 151, 153, 155, 157, 159, 161] (by decide +kernel) (by decide +kernel), by decide +kernel, fun k hk => ?_⟩
  match k, hk with
  | 0, _ => exact Or.inr ⟨_, rfl⟩
  | 1, _ => exact Or.inr ⟨_, rfl⟩
  | 2, _ => exact Or.inl ⟨_, rfl⟩
  | 3, _ => exact Or.inl ⟨_, rfl⟩
  | 4, _ => exact Or.inl ⟨_, rfl⟩
  | 5, _ => exact Or.inl ⟨_, rfl⟩
  | 6, _ => exact Or.inl ⟨_, rfl⟩
  | 7, _ => exact Or.inl rfl
  | k + 8, hk => exact absurd hk (by omega)
set_option maxRecDepth 20000 in
theorem ok_K : zz_okD 1 "SegmentTrees$Kind" zf_K 8 := by
  refine ⟨by decide, rfl, by decide +kernel, by decide +kernel, zz_ins [412, 414, 416, 418, 420, 422, 424, 426] (by decide +kernel) (by decide +kernel), by decide +kernel, fun k hk => ?_⟩
  match k, hk with
  | 0, _ => exact Or.inl rfl
  | 1, _ => exact Or.inl ⟨_, rfl⟩
  | 2, _ => exact Or.inl rfl
  | 3, _ => exact Or.inl rfl
  | 4, _ => exact Or.inl rfl
  | 5, _ => exact Or.inr rfl
  | 6, _ => exact Or.inr rfl
  | 7, _ => exact Or.inl ⟨_, rfl⟩
  | k + 8, hk => exact absurd hk (by omega)
set_option maxRecDepth 20000 in
theorem ok_S : zz_okD 2 "SegmentTrees$Segment" zf_S 7 := by
  refine ⟨by decide, rfl, by decide +kernel, by decide +kernel, zz_ins [581, 583, 585, 587, 589, 591, 593] (by decide +kernel) (by decide +kernel), by decide +kernel, fun k hk => ?_⟩
  match k, hk with
  | 0, _ => exact Or.inl rfl
  | 1, _ => exact Or.inl ⟨_, rfl⟩
  | 2, _ => exact Or.inl ⟨_, rfl⟩
  | 3, _ => exact Or.inr ⟨_, rfl⟩
  | 4, _ => exact Or.inl ⟨_, rfl⟩
  | 5, _ => exact Or.inr rfl
  | 6, _ => exact Or.inl rfl
  | k + 7, hk => exact absurd hk (by omega)
set_option maxRecDepth 20000 in
theorem ok_L : zz_okD 3 "SegmentTrees$PathLevel" zf_L 5 := by
  refine ⟨by decide, rfl, by decide +kernel, by decide +kernel, zz_ins [78, 80, 82, 84, 86] (by decide +kernel) (by decide +kernel), by decide +kernel, fun k hk => ?_⟩
  match k, hk with
  | 0, _ => exact Or.inl ⟨_, rfl⟩
  | 1, _ => exact Or.inl rfl
  | 2, _ => exact Or.inr ⟨_, rfl⟩
  | 3, _ => exact Or.inr ⟨_, rfl⟩
  | 4, _ => exact Or.inr ⟨_, rfl⟩
  | k + 5, hk => exact absurd hk (by omega)
set_option maxRecDepth 20000 in
theorem ok_P : zz_okD 4 "SegmentTrees$Path" zf_P 1 := by
  refine ⟨by decide, rfl, by decide +kernel, by decide +kernel, zz_ins [91] (by decide +kernel) (by decide +kernel), by decide +kernel, fun k hk => ?_⟩
  match k, hk with
  | 0, _ => exact Or.inr ⟨_, rfl⟩
  | k + 1, hk => exact absurd hk (by omega)
set_option maxRecDepth 20000 in
theorem ok_O : zz_okD 5 "SegmentTrees$Order" zf_O 6 := by
  refine ⟨by decide, rfl, by decide +kernel, by decide +kernel, zz_ins [110, 112, 114, 116, 118, 120] (by decide +kernel) (by decide +kernel), by decide +kernel, fun k hk => ?_⟩
  match k, hk with
  | 0, _ => exact Or.inr ⟨_, rfl⟩
  | 1, _ => exact Or.inr ⟨_, rfl⟩
  | 2, _ => exact Or.inl rfl
  | 3, _ => exact Or.inl ⟨_, rfl⟩
  | 4, _ => exact Or.inl rfl
  | 5, _ => exact Or.inr rfl
  | k + 6, hk => exact absurd hk (by omega)
set_option maxRecDepth 20000 in
theorem ok_Q : zz_okD 6 "SegmentTrees$Position" zf_Q 3 := by
  refine ⟨by decide, rfl, by decide +kernel, by decide +kernel, zz_ins [132, 134, 136] (by decide +kernel) (by decide +kernel), by decide +kernel, fun k hk => ?_⟩
  match k, hk with
  | 0, _ => exact Or.inl ⟨_, rfl⟩
  | 1, _ => exact Or.inr rfl
  | 2, _ => exact Or.inr rfl
  | k + 3, hk => exact absurd hk (by omega)
set_option maxRecDepth 20000 in
theorem ok_M : zz_okD 7 "SegmentTreesModel" zf_M 32 := by
  refine ⟨by decide, rfl, by decide +kernel, by decide +kernel, zz_ins [751, 753, 755, 757, 759, 761, 763, 765, 767, 769, 771, 773, 775, 777, 779, 781, 783, 785, 787, 789, 791, 793, 795, 797, 799, 801, 803, 805, 807, 809, 811, 813] (by decide +kernel) (by decide +kernel), by decide +kernel, fun k hk => ?_⟩
  match k, hk with
  | 0, _ => exact Or.inl rfl
  | 1, _ => exact Or.inr ⟨_, rfl⟩
  | 2, _ => exact Or.inr ⟨_, rfl⟩
  | 3, _ => exact Or.inr ⟨_, rfl⟩
  | 4, _ => exact Or.inr ⟨_, rfl⟩
  | 5, _ => exact Or.inr ⟨_, rfl⟩
  | 6, _ => exact Or.inr ⟨_, rfl⟩
  | 7, _ => exact Or.inr ⟨_, rfl⟩
  | 8, _ => exact Or.inr ⟨_, rfl⟩
  | 9, _ => exact Or.inl rfl
  | 10, _ => exact Or.inl rfl
  | 11, _ => exact Or.inr rfl
  | 12, _ => exact Or.inl rfl
  | 13, _ => exact Or.inl rfl
  | 14, _ => exact Or.inr ⟨_, rfl⟩
  | 15, _ => exact Or.inr ⟨_, rfl⟩
  | 16, _ => exact Or.inr ⟨_, rfl⟩
  | 17, _ => exact Or.inr ⟨_, rfl⟩
  | 18, _ => exact Or.inr ⟨_, rfl⟩
  | 19, _ => exact Or.inr ⟨_, rfl⟩
  | 20, _ => exact Or.inr ⟨_, rfl⟩
  | 21, _ => exact Or.inr ⟨_, rfl⟩
  | 22, _ => exact Or.inr ⟨_, rfl⟩
  | 23, _ => exact Or.inr ⟨_, rfl⟩
  | 24, _ => exact Or.inr ⟨_, rfl⟩
  | 25, _ => exact Or.inr ⟨_, rfl⟩
  | 26, _ => exact Or.inr ⟨_, rfl⟩
  | 27, _ => exact Or.inr ⟨_, rfl⟩
  | 28, _ => exact Or.inl rfl
  | 29, _ => exact Or.inl rfl
  | 30, _ => exact Or.inl rfl
  | 31, _ => exact Or.inl rfl
  | k + 32, hk => exact absurd hk (by omega)
theorem zz_okC (ci : Nat) (C : String) (T : u_T) (N : Nat) (h : zz_cl[ci]? = some (C, T, N)) : zz_okD ci C T N := by
  match ci, h with
  | 0, h => cases h; exact ok_T
  | 1, h => cases h; exact ok_K
  | 2, h => cases h; exact ok_S
  | 3, h => cases h; exact ok_L
  | 4, h => cases h; exact ok_P
  | 5, h => cases h; exact ok_O
  | 6, h => cases h; exact ok_Q
  | 7, h => cases h; exact ok_M
  | k + 8, h => exact absurd h (by simp [zz_cl])
end
section
/-! the small machine: values, heap, world -/
abbrev zz_V : Type := Int32 ⊕ Int64 ⊕ (Nat × Option Nat)
abbrev zz_i (x : Int32) : zz_V := Sum.inl x
abbrev zz_l (x : Int64) : zz_V := Sum.inr (Sum.inl x)
abbrev zz_r (t : Nat) (o : Option Nat) : zz_V := Sum.inr (Sum.inr (t, o))
def zz_v (v : zz_V) : Value := match v with
  | .inl x => .int x
  | .inr (.inl x) => .long x
  | .inr (.inr q) => va_rf q.2
def zz_cat (v : zz_V) : Nat := match v with
  | .inr (.inl _) => 2
  | _ => 1
theorem zz_cat_v (v : zz_V) : (zz_v v).category = zz_cat v := by
  rcases v with x | x | ⟨t, o⟩
  · rfl
  · rfl
  · cases o <;> rfl
/-- tags (static type, length), int fields, reference fields, int arrays, reference arrays, long arrays -/
abbrev zz_H : Type := (Nat → Option (Nat × Nat)) × (Nat → Nat → Nat → Int32) × (Nat → Nat → Nat → Option Nat) × (Nat → Nat → Int32) × (Nat → Nat → Option Nat) × (Nat → Nat → Int64)
def zz_tg (h : zz_H) : Nat → Option (Nat × Nat) := h.1
def zz_fI (h : zz_H) : Nat → Nat → Nat → Int32 := h.2.1
def zz_fR (h : zz_H) : Nat → Nat → Nat → Option Nat := h.2.2.1
def zz_aI (h : zz_H) : Nat → Nat → Int32 := h.2.2.2.1
def zz_aR (h : zz_H) : Nat → Nat → Option Nat := h.2.2.2.2.1
def zz_aL (h : zz_H) : Nat → Nat → Int64 := h.2.2.2.2.2
def zz_pI (h : zz_H) (ci k a : Nat) (x : Int32) : zz_H := (h.1, (fun c j b => if c = ci ∧ j = k ∧ b = a then x else h.2.1 c j b), h.2.2.1, h.2.2.2.1, h.2.2.2.2.1, h.2.2.2.2.2)
def zz_pR (h : zz_H) (ci k a : Nat) (x : Option Nat) : zz_H := (h.1, h.2.1, (fun c j b => if c = ci ∧ j = k ∧ b = a then x else h.2.2.1 c j b), h.2.2.2.1, h.2.2.2.2.1, h.2.2.2.2.2)
def zz_sI (h : zz_H) (a i : Nat) (x : Int32) : zz_H := (h.1, h.2.1, h.2.2.1, (fun b j => if b = a ∧ j = i then x else h.2.2.2.1 b j), h.2.2.2.2.1, h.2.2.2.2.2)
def zz_sR (h : zz_H) (a i : Nat) (x : Option Nat) : zz_H := (h.1, h.2.1, h.2.2.1, h.2.2.2.1, (fun b j => if b = a ∧ j = i then x else h.2.2.2.2.1 b j), h.2.2.2.2.2)
def zz_sL (h : zz_H) (a i : Nat) (x : Int64) : zz_H := (h.1, h.2.1, h.2.2.1, h.2.2.2.1, h.2.2.2.2.1, (fun b j => if b = a ∧ j = i then x else h.2.2.2.2.2 b j))
/-- an array's places changed as a whole -/
def zz_uI (h : zz_H) (a : Nat) (f : Nat → Int32) : zz_H := (h.1, h.2.1, h.2.2.1, (fun b j => if b = a then f j else h.2.2.2.1 b j), h.2.2.2.2.1, h.2.2.2.2.2)
def zz_uR (h : zz_H) (a : Nat) (f : Nat → Option Nat) : zz_H := (h.1, h.2.1, h.2.2.1, h.2.2.2.1, (fun b j => if b = a then f j else h.2.2.2.2.1 b j), h.2.2.2.2.2)
def zz_new (h : zz_H) (ci a : Nat) : zz_H := ((fun b => if b = a then some (ci, 0) else h.1 b), (fun c j b => if c = ci ∧ b = a then 0 else h.2.1 c j b), (fun c j b => if c = ci ∧ b = a then none else h.2.2.1 c j b), h.2.2.2.1, h.2.2.2.2.1, h.2.2.2.2.2)
def zz_newA (h : zz_H) (ty n a : Nat) : zz_H := ((fun b => if b = a then some (ty, n) else h.1 b), h.2.1, h.2.2.1, (fun b j => if b = a then 0 else h.2.2.2.1 b j), (fun b j => if b = a then none else h.2.2.2.2.1 b j), (fun b j => if b = a then 0 else h.2.2.2.2.2 b j))
/-! what is read behind a write -/
theorem zz_tg_pI (h : zz_H) (ci k a : Nat) (x : Int32) : zz_tg (zz_pI h ci k a x) = zz_tg h := rfl
theorem zz_fI_pI (h : zz_H) (ci k a : Nat) (x : Int32) (c j b : Nat) : zz_fI (zz_pI h ci k a x) c j b = if c = ci ∧ j = k ∧ b = a then x else zz_fI h c j b := rfl
theorem zz_fR_pI (h : zz_H) (ci k a : Nat) (x : Int32) : zz_fR (zz_pI h ci k a x) = zz_fR h := rfl
theorem zz_aI_pI (h : zz_H) (ci k a : Nat) (x : Int32) : zz_aI (zz_pI h ci k a x) = zz_aI h := rfl
theorem zz_aR_pI (h : zz_H) (ci k a : Nat) (x : Int32) : zz_aR (zz_pI h ci k a x) = zz_aR h := rfl
theorem zz_aL_pI (h : zz_H) (ci k a : Nat) (x : Int32) : zz_aL (zz_pI h ci k a x) = zz_aL h := rfl
theorem zz_tg_pR (h : zz_H) (ci k a : Nat) (x : Option Nat) : zz_tg (zz_pR h ci k a x) = zz_tg h := rfl
theorem zz_fI_pR (h : zz_H) (ci k a : Nat) (x : Option Nat) : zz_fI (zz_pR h ci k a x) = zz_fI h := rfl
theorem zz_fR_pR (h : zz_H) (ci k a : Nat) (x : Option Nat) (c j b : Nat) : zz_fR (zz_pR h ci k a x) c j b = if c = ci ∧ j = k ∧ b = a then x else zz_fR h c j b := rfl
theorem zz_aI_pR (h : zz_H) (ci k a : Nat) (x : Option Nat) : zz_aI (zz_pR h ci k a x) = zz_aI h := rfl
theorem zz_aR_pR (h : zz_H) (ci k a : Nat) (x : Option Nat) : zz_aR (zz_pR h ci k a x) = zz_aR h := rfl
theorem zz_aL_pR (h : zz_H) (ci k a : Nat) (x : Option Nat) : zz_aL (zz_pR h ci k a x) = zz_aL h := rfl
theorem zz_tg_sI (h : zz_H) (a i : Nat) (x : Int32) : zz_tg (zz_sI h a i x) = zz_tg h := rfl
theorem zz_fI_sI (h : zz_H) (a i : Nat) (x : Int32) : zz_fI (zz_sI h a i x) = zz_fI h := rfl
theorem zz_fR_sI (h : zz_H) (a i : Nat) (x : Int32) : zz_fR (zz_sI h a i x) = zz_fR h := rfl
theorem zz_aI_sI (h : zz_H) (a i : Nat) (x : Int32) (b j : Nat) : zz_aI (zz_sI h a i x) b j = if b = a ∧ j = i then x else zz_aI h b j := rfl
theorem zz_aR_sI (h : zz_H) (a i : Nat) (x : Int32) : zz_aR (zz_sI h a i x) = zz_aR h := rfl
theorem zz_aL_sI (h : zz_H) (a i : Nat) (x : Int32) : zz_aL (zz_sI h a i x) = zz_aL h := rfl
theorem zz_tg_sR (h : zz_H) (a i : Nat) (x : Option Nat) : zz_tg (zz_sR h a i x) = zz_tg h := rfl
theorem zz_fI_sR (h : zz_H) (a i : Nat) (x : Option Nat) : zz_fI (zz_sR h a i x) = zz_fI h := rfl
theorem zz_fR_sR (h : zz_H) (a i : Nat) (x : Option Nat) : zz_fR (zz_sR h a i x) = zz_fR h := rfl
theorem zz_aI_sR (h : zz_H) (a i : Nat) (x : Option Nat) : zz_aI (zz_sR h a i x) = zz_aI h := rfl
theorem zz_aR_sR (h : zz_H) (a i : Nat) (x : Option Nat) (b j : Nat) : zz_aR (zz_sR h a i x) b j = if b = a ∧ j = i then x else zz_aR h b j := rfl
theorem zz_aL_sR (h : zz_H) (a i : Nat) (x : Option Nat) : zz_aL (zz_sR h a i x) = zz_aL h := rfl
theorem zz_tg_sL (h : zz_H) (a i : Nat) (x : Int64) : zz_tg (zz_sL h a i x) = zz_tg h := rfl
theorem zz_fI_sL (h : zz_H) (a i : Nat) (x : Int64) : zz_fI (zz_sL h a i x) = zz_fI h := rfl
theorem zz_fR_sL (h : zz_H) (a i : Nat) (x : Int64) : zz_fR (zz_sL h a i x) = zz_fR h := rfl
theorem zz_aI_sL (h : zz_H) (a i : Nat) (x : Int64) : zz_aI (zz_sL h a i x) = zz_aI h := rfl
theorem zz_aR_sL (h : zz_H) (a i : Nat) (x : Int64) : zz_aR (zz_sL h a i x) = zz_aR h := rfl
theorem zz_aL_sL (h : zz_H) (a i : Nat) (x : Int64) (b j : Nat) : zz_aL (zz_sL h a i x) b j = if b = a ∧ j = i then x else zz_aL h b j := rfl
theorem zz_tg_uI (h : zz_H) (a : Nat) (f : Nat → Int32) : zz_tg (zz_uI h a f) = zz_tg h := rfl
theorem zz_fI_uI (h : zz_H) (a : Nat) (f : Nat → Int32) : zz_fI (zz_uI h a f) = zz_fI h := rfl
theorem zz_fR_uI (h : zz_H) (a : Nat) (f : Nat → Int32) : zz_fR (zz_uI h a f) = zz_fR h := rfl
theorem zz_aI_uI (h : zz_H) (a : Nat) (f : Nat → Int32) (b j : Nat) : zz_aI (zz_uI h a f) b j = if b = a then f j else zz_aI h b j := rfl
theorem zz_aR_uI (h : zz_H) (a : Nat) (f : Nat → Int32) : zz_aR (zz_uI h a f) = zz_aR h := rfl
theorem zz_aL_uI (h : zz_H) (a : Nat) (f : Nat → Int32) : zz_aL (zz_uI h a f) = zz_aL h := rfl
theorem zz_tg_uR (h : zz_H) (a : Nat) (f : Nat → Option Nat) : zz_tg (zz_uR h a f) = zz_tg h := rfl
theorem zz_fI_uR (h : zz_H) (a : Nat) (f : Nat → Option Nat) : zz_fI (zz_uR h a f) = zz_fI h := rfl
theorem zz_fR_uR (h : zz_H) (a : Nat) (f : Nat → Option Nat) : zz_fR (zz_uR h a f) = zz_fR h := rfl
theorem zz_aI_uR (h : zz_H) (a : Nat) (f : Nat → Option Nat) : zz_aI (zz_uR h a f) = zz_aI h := rfl
theorem zz_aR_uR (h : zz_H) (a : Nat) (f : Nat → Option Nat) (b j : Nat) : zz_aR (zz_uR h a f) b j = if b = a then f j else zz_aR h b j := rfl
theorem zz_aL_uR (h : zz_H) (a : Nat) (f : Nat → Option Nat) : zz_aL (zz_uR h a f) = zz_aL h := rfl
theorem zz_tg_new (h : zz_H) (ci a b : Nat) : zz_tg (zz_new h ci a) b = if b = a then some (ci, 0) else zz_tg h b := rfl
theorem zz_fI_new (h : zz_H) (ci a c j b : Nat) : zz_fI (zz_new h ci a) c j b = if c = ci ∧ b = a then 0 else zz_fI h c j b := rfl
theorem zz_fR_new (h : zz_H) (ci a c j b : Nat) : zz_fR (zz_new h ci a) c j b = if c = ci ∧ b = a then none else zz_fR h c j b := rfl
theorem zz_aI_new (h : zz_H) (ci a : Nat) : zz_aI (zz_new h ci a) = zz_aI h := rfl
theorem zz_aR_new (h : zz_H) (ci a : Nat) : zz_aR (zz_new h ci a) = zz_aR h := rfl
theorem zz_aL_new (h : zz_H) (ci a : Nat) : zz_aL (zz_new h ci a) = zz_aL h := rfl
theorem zz_tg_newA (h : zz_H) (ty n a b : Nat) : zz_tg (zz_newA h ty n a) b = if b = a then some (ty, n) else zz_tg h b := rfl
theorem zz_fI_newA (h : zz_H) (ty n a : Nat) : zz_fI (zz_newA h ty n a) = zz_fI h := rfl
theorem zz_fR_newA (h : zz_H) (ty n a : Nat) : zz_fR (zz_newA h ty n a) = zz_fR h := rfl
theorem zz_aI_newA (h : zz_H) (ty n a b j : Nat) : zz_aI (zz_newA h ty n a) b j = if b = a then 0 else zz_aI h b j := rfl
theorem zz_aR_newA (h : zz_H) (ty n a b j : Nat) : zz_aR (zz_newA h ty n a) b j = if b = a then none else zz_aR h b j := rfl
theorem zz_aL_newA (h : zz_H) (ty n a b j : Nat) : zz_aL (zz_newA h ty n a) b j = if b = a then 0 else zz_aL h b j := rfl
/-! the cells -/
def zz_fv (h : zz_H) (ci k a : Nat) : Value := match zz_ft ci k with
  | none => .int (zz_fI h ci k a)
  | some _ => va_rf (zz_fR h ci k a)
def zz_fs (h : zz_H) (ci a : Nat) : List Value := (List.range (zz_nf ci)).map (fun k => zz_fv h ci k a)
def zz_cell (DA : Nat → ClassId) (h : zz_H) (a : Nat) : Option va_E := match zz_tg h a with
  | none => none
  | some (ty, n) =>
    if ty < 90 then some (.inr (ty, zz_fs h ty a))
    else if ty = 93 then none
    else if ty = 92 then some (.inl (DA ty, n, .inr (.inl (zz_aL h a))))
    else if ty < 100 then some (.inl (DA ty, n, .inl (zz_aI h a)))
    else some (.inl (DA ty, n, .inr (.inr (.inr (.inr (zz_aR h a))))))
/-- a value is of its static type -/
def zz_ty (h : zz_H) (v : zz_V) : Prop := match v with
  | .inr (.inr q) => ∀ b, q.2 = some b → ∃ n, zz_tg h b = some (q.1, n)
  | _ => True
def zz_T (h : zz_H) (vs : List zz_V) : Prop := ∀ v ∈ vs, zz_ty h v
def zz_tyH (h : zz_H) : Prop :=
  (∀ a ci n k ty, zz_tg h a = some (ci, n) → ci < 90 → zz_ft ci k = some ty → zz_ty h (zz_r ty (zz_fR h ci k a))) ∧
  (∀ a ty n j, zz_tg h a = some (ty, n) → 100 ≤ ty → zz_ty h (zz_r (ty - 100) (zz_aR h a j)))
def zz_W (D : va_G) (DA : Nat → ClassId) (U : State) (h : zz_H) (H : Heap) : Prop :=
  (∀ a e, zz_cell DA h a = some e → va_at D zz_cl (a, e) H) ∧ (∀ a n, zz_tg h a = some (93, n) → va_X a n (zz_aI h a) U H) ∧ zz_tyH h
def zz_S (A : Nat → Prop) (H0 : Heap) (h : zz_H) (H : Heap) (locs : List Loc) : Prop :=
  va_S A H0 H locs ∧ (∀ q, H0.size ≤ q → A q) ∧ (∀ a ty n, zz_tg h a = some (ty, n) → ty ≠ 93 → A a) ∧ (∀ a n, zz_tg h a = some (93, n) → a < H0.size ∧ ¬ A a)
def zz_le (h h' : zz_H) : Prop := (∀ a t, zz_tg h a = some t → zz_tg h' a = some t) ∧ ∀ a n, zz_tg h' a = some (93, n) → zz_tg h a = some (93, n)
theorem zz_le_rf (h : zz_H) : zz_le h h := ⟨fun _ _ q => q, fun _ _ q => q⟩
theorem zz_le_tr {h1 h2 h3 : zz_H} (a : zz_le h1 h2) (b : zz_le h2 h3) : zz_le h1 h3 := ⟨fun x t q => b.1 x t (a.1 x t q), fun x n q => a.2 x n (b.2 x n q)⟩
theorem zz_ty_le {h h' : zz_H} (hl : ∀ a t, zz_tg h a = some t → zz_tg h' a = some t) {v : zz_V} (hv : zz_ty h v) : zz_ty h' v := by
  rcases v with x | x | ⟨t, o⟩
  · trivial
  · trivial
  · intro b hb
    obtain ⟨n, hn⟩ := hv b hb
    exact ⟨n, hl b _ hn⟩
theorem zz_T_le {h h' : zz_H} (hl : ∀ a t, zz_tg h a = some t → zz_tg h' a = some t) {vs : List zz_V} (hv : zz_T h vs) : zz_T h' vs := fun v q => zz_ty_le hl (hv v q)
/-! the cells as a list -/
def zz_ws (DA : Nat → ClassId) (h : zz_H) (N : Nat) : va_W := (List.range N).filterMap (fun a => (zz_cell DA h a).map (fun e => (a, e)))
theorem zz_ws_mem {DA : Nat → ClassId} {h : zz_H} {N a : Nat} {e : va_E} : (a, e) ∈ zz_ws DA h N ↔ a < N ∧ zz_cell DA h a = some e := by
  unfold zz_ws
  rw [List.mem_filterMap]
  constructor
  · rintro ⟨b, hb, hq⟩
    obtain ⟨e', he, hq⟩ := Option.map_eq_some_iff.mp hq
    cases hq
    exact ⟨List.mem_range.mp hb, he⟩
  · rintro ⟨h1, h2⟩
    exact ⟨a, List.mem_range.mpr h1, by rw [h2]; rfl⟩
theorem zz_ws_lt (DA : Nat → ClassId) (h : zz_H) (N : Nat) : (zz_ws DA h N).Pairwise (fun x y => x.1 < y.1) := by
  unfold zz_ws
  rw [List.pairwise_filterMap]
  refine (List.pairwise_lt_range (n := N)).imp ?_
  intro a b hab x hx y hy
  obtain ⟨e1, -, rfl⟩ := Option.map_eq_some_iff.mp hx
  obtain ⟨e2, -, rfl⟩ := Option.map_eq_some_iff.mp hy
  exact hab
theorem zz_ws_nd {DA : Nat → ClassId} {h : zz_H} {N : Nat} (i j : Nat) (x y : Nat × va_E) (hi : (zz_ws DA h N)[i]? = some x) (hj : (zz_ws DA h N)[j]? = some y) (hxy : x.1 = y.1) : i = j := by
  obtain ⟨hi1, hi2⟩ := List.getElem?_eq_some_iff.mp hi
  obtain ⟨hj1, hj2⟩ := List.getElem?_eq_some_iff.mp hj
  rcases Nat.lt_trichotomy i j with hl | hl | hl
  · have := List.pairwise_iff_getElem.mp (zz_ws_lt DA h N) i j hi1 hj1 hl
    rw [hi2, hj2] at this
    omega
  · exact hl
  · have := List.pairwise_iff_getElem.mp (zz_ws_lt DA h N) j i hj1 hi1 hl
    rw [hi2, hj2] at this
    omega
theorem zz_cell_tag {DA : Nat → ClassId} {h : zz_H} {a : Nat} {e : va_E} (he : zz_cell DA h a = some e) : ∃ ty n, zz_tg h a = some (ty, n) ∧ ty ≠ 93 := by
  unfold zz_cell at he
  cases ht : zz_tg h a with
  | none => rw [ht] at he; cases he
  | some q =>
    obtain ⟨ty, n⟩ := q
    rw [ht] at he
    refine ⟨ty, n, rfl, ?_⟩
    rintro rfl
    simp at he
theorem zz_tag_cell {DA : Nat → ClassId} {h : zz_H} {a ty n : Nat} (ht : zz_tg h a = some (ty, n)) (h93 : ty ≠ 93) : ∃ e, zz_cell DA h a = some e := by
  unfold zz_cell
  rw [ht]
  simp only [h93, if_false]
  split
  · exact ⟨_, rfl⟩
  · split
    · exact ⟨_, rfl⟩
    · split <;> exact ⟨_, rfl⟩
section ZW
variable {D : va_G} {DA : Nat → ClassId} {U : State} {h h' : zz_H} {H H1 H0 : Heap} {A : Nat → Prop} {locs locs1 : List Loc}
theorem zz_toP (hW : zz_W D DA U h H) : va_P D zz_cl (zz_ws DA h H.size) H := fun k q hk => by
  obtain ⟨a, e⟩ := q
  exact hW.1 a e (zz_ws_mem.mp (List.mem_of_getElem? hk)).2
theorem zz_toD (DA : Nat → ClassId) (hS : zz_S A H0 h H locs) : va_D A (zz_ws DA h H.size) := by
  refine ⟨fun i j x y hi hj hxy => zz_ws_nd i j x y hi hj hxy, fun k q hk => ?_⟩
  obtain ⟨a, e⟩ := q
  obtain ⟨ty, n, ht, h93⟩ := zz_cell_tag (zz_ws_mem.mp (List.mem_of_getElem? hk)).2
  exact hS.2.2.1 a ty n ht h93
theorem zz_pos (hW : zz_W D DA U h H) {a : Nat} {e : va_E} (he : zz_cell DA h a = some e) : ∃ q0 : Nat, (zz_ws DA h H.size)[q0]? = some (a, e) :=
  List.getElem?_of_mem (zz_ws_mem.mpr ⟨(hW.1 a e he).lt, he⟩)
theorem zz_at1 (hW : zz_W D DA U h H) {a : Nat} {e : va_E} (he : zz_cell DA h a = some e) : va_P D zz_cl [(a, e)] H := by
  intro k q hk
  have hz : k < 1 := (List.getElem?_eq_some_iff.mp hk).1
  rw [show k = 0 by omega] at hk
  cases hk
  exact hW.1 a e he
theorem zz_back {a q0 : Nat} {e e' : va_E} (hW : zz_W D DA U h H) (hS : zz_S A H0 h H locs) (hq : (zz_ws DA h H.size)[q0]? = some (a, e)) (hP : va_P D zz_cl ((zz_ws DA h H.size).set q0 (a, e')) H1) (hS1 : va_S A H0 H1 locs1)
    (hc : zz_cell DA h' a = some e') (ho : ∀ b, b ≠ a → zz_cell DA h' b = zz_cell DA h b) (htg : zz_tg h' = zz_tg h) (h93 : ∀ b n, zz_tg h b = some (93, n) → zz_aI h' b = zz_aI h b) (hty : zz_tyH h') : zz_W D DA U h' H1 ∧ zz_S A H0 h' H1 locs1 := by
  have hl := (List.getElem?_eq_some_iff.mp hq).1
  refine ⟨⟨fun b eb hb => ?_, fun b n hb => ?_, hty⟩, hS1, hS.2.1, fun b ty n hb h9 => ?_, fun b n hb => ?_⟩
  · by_cases hba : b = a
    · subst hba
      rw [hc] at hb
      cases hb
      exact hP q0 _ (List.getElem?_set_self hl)
    · rw [ho b hba] at hb
      obtain ⟨j, hj⟩ := zz_pos hW hb
      have hjq : j ≠ q0 := by
        rintro rfl
        rw [hq] at hj
        cases hj
        exact hba rfl
      exact hP j _ (by rw [List.getElem?_set_ne (Ne.symm hjq)]; exact hj)
  · rw [htg] at hb
    obtain ⟨g1, g2⟩ := hS.2.2.2 b n hb
    rw [h93 b n hb]
    exact (hW.2.1 b n hb).kept ((hS1.2.1 b g1 g2).trans (hS.1.2.1 b g1 g2).symm)
  · rw [htg] at hb
    exact hS.2.2.1 b ty n hb h9
  · rw [htg] at hb
    exact hS.2.2.2 b n hb
theorem zz_fresh {q : Nat} {e' : va_E} (hW : zz_W D DA U h H) (hS : zz_S A H0 h H locs) (hD : va_D A (zz_ws DA h H.size ++ [(q, e')])) : zz_tg h q = none := by
  cases ht : zz_tg h q with
  | none => rfl
  | some t =>
    exfalso
    obtain ⟨ty, n⟩ := t
    have hlast : (zz_ws DA h H.size ++ [(q, e')])[(zz_ws DA h H.size).length]? = some (q, e') := by simp
    by_cases h93 : ty = 93
    · subst h93
      exact (hS.2.2.2 q n ht).2 (hD.2 _ _ hlast)
    · obtain ⟨e, he⟩ := zz_tag_cell (DA := DA) ht h93
      obtain ⟨j, hj⟩ := zz_pos hW he
      have hjl := (List.getElem?_eq_some_iff.mp hj).1
      have := hD.1 j _ (q, e) (q, e') (by rw [List.getElem?_append_left hjl]; exact hj) hlast rfl
      omega
theorem zz_backN {q : Nat} {e' : va_E} {t : Nat × Nat} (hW : zz_W D DA U h H) (hS : zz_S A H0 h H locs) (hP : va_P D zz_cl (zz_ws DA h H.size ++ [(q, e')]) H1) (hD : va_D A (zz_ws DA h H.size ++ [(q, e')])) (hS1 : va_S A H0 H1 locs1)
    (hc : zz_cell DA h' q = some e') (ho : ∀ b, b ≠ q → zz_cell DA h' b = zz_cell DA h b) (htg : ∀ b, zz_tg h' b = if b = q then some t else zz_tg h b) (h9 : t.1 ≠ 93) (h93 : ∀ b, b ≠ q → zz_aI h' b = zz_aI h b) (hty : zz_tyH h') : zz_W D DA U h' H1 ∧ zz_S A H0 h' H1 locs1 := by
  have hlast : (zz_ws DA h H.size ++ [(q, e')])[(zz_ws DA h H.size).length]? = some (q, e') := by simp
  have hAq := hD.2 _ _ hlast
  have old : ∀ b t', zz_tg h' b = some t' → b ≠ q → zz_tg h b = some t' := fun b t' hb hbq => by
    rw [htg b, if_neg hbq] at hb
    exact hb
  have same : ∀ b t', zz_tg h' b = some t' → b = q → t' = t := fun b t' hb hbq => by
    rw [htg b, if_pos hbq] at hb
    cases hb
    rfl
  refine ⟨⟨fun b eb hb => ?_, fun b n hb => ?_, hty⟩, hS1, hS.2.1, fun b ty n hb hn => ?_, fun b n hb => ?_⟩
  · by_cases hbq : b = q
    · subst hbq
      rw [hc] at hb
      cases hb
      exact hP _ _ hlast
    · rw [ho b hbq] at hb
      obtain ⟨j, hj⟩ := zz_pos hW hb
      have hjl := (List.getElem?_eq_some_iff.mp hj).1
      exact hP j _ (by rw [List.getElem?_append_left hjl]; exact hj)
  · by_cases hbq : b = q
    · have := same b _ hb hbq
      rw [← this] at h9
      exact absurd rfl h9
    · have hb' := old b _ hb hbq
      obtain ⟨g1, g2⟩ := hS.2.2.2 b n hb'
      rw [h93 b hbq]
      exact (hW.2.1 b n hb').kept ((hS1.2.1 b g1 g2).trans (hS.1.2.1 b g1 g2).symm)
  · by_cases hbq : b = q
    · rw [hbq]
      exact hAq
    · exact hS.2.2.1 b ty n (old b _ hb hbq) hn
  · by_cases hbq : b = q
    · have := same b _ hb hbq
      rw [← this] at h9
      exact absurd rfl h9
    · exact hS.2.2.2 b n (old b _ hb hbq)
end ZW
/-! the locals by their places -/
def zz_Lh (ls : Array Slot) (nL : Nat) (L : List (Option zz_V)) : Prop := ls.size = nL ∧ lv_wf ls ∧ ∀ (i : Nat) (v : zz_V), L[i]? = some (some v) → ls[i]? = some (.val (zz_v v))
def zz_TL (h : zz_H) (L : List (Option zz_V)) : Prop := ∀ (i : Nat) (v : zz_V), L[i]? = some (some v) → zz_ty h v
def zz_lst (L : List (Option zz_V)) : List (Nat × Value) := L.zipIdx.filterMap (fun q => q.1.map (fun v => (q.2, zz_v v)))
theorem zz_lst_mem {L : List (Option zz_V)} {i : Nat} {w : Value} : (i, w) ∈ zz_lst L ↔ ∃ v, L[i]? = some (some v) ∧ w = zz_v v := by
  unfold zz_lst
  rw [List.mem_filterMap]
  constructor
  · rintro ⟨⟨o, j⟩, hq, he⟩
    obtain ⟨v, hv, he⟩ := Option.map_eq_some_iff.mp he
    cases he
    have := List.mem_zipIdx_iff_getElem?.mp hq
    dsimp only at hv this
    subst hv
    exact ⟨v, this, rfl⟩
  · rintro ⟨v, hv, rfl⟩
    exact ⟨(some v, i), List.mem_zipIdx_iff_getElem?.mpr hv, rfl⟩
theorem zz_Lh_has {ls : Array Slot} {nL : Nat} {L : List (Option zz_V)} (h : zz_Lh ls nL L) : lv_has ls nL (zz_lst L) := by
  refine ⟨h.1, h.2.1, fun q hq => ?_⟩
  obtain ⟨i, w⟩ := q
  obtain ⟨v, hv, rfl⟩ := zz_lst_mem.mp hq
  exact h.2.2 i v hv
/-- no long lies just ahead of place i -/
def zz_nl (L : List (Option zz_V)) (i : Nat) : Bool := match i with
  | 0 => true
  | j + 1 => match L[j]? with
    | some (some (.inr (.inl _))) => false
    | _ => true
theorem zz_nl_of {L : List (Option zz_V)} {i j : Nat} {w : zz_V} (hn : zz_nl L i = true) (hj : L[j]? = some (some w)) (hji : j + 1 = i) : zz_cat w = 1 := by
  subst hji
  rcases w with x | x | x
  · rfl
  · simp [zz_nl, hj] at hn
  · rfl
theorem zz_Lh_set1 {ls : Array Slot} {nL i : Nat} {L : List (Option zz_V)} {v : zz_V} (hn : zz_nl L i = true)
    (h : lv_has ls nL ((i, zz_v v) :: (zz_lst L).filter (fun q => !(q.1 == i) && !(q.1 + 1 == i && q.2.category == 2)))) : zz_Lh ls nL (L.set i (some v)) := by
  refine ⟨h.1, h.2.1, fun j w hj => ?_⟩
  by_cases hji : j = i
  · subst hji
    have hlt : j < L.length := by
      have := (List.getElem?_eq_some_iff.mp hj).1
      simpa using this
    rw [List.getElem?_set_self hlt] at hj
    cases hj
    exact h.2.2 _ List.mem_cons_self
  · rw [List.getElem?_set_ne (Ne.symm hji)] at hj
    refine h.2.2 (j, zz_v w) (List.mem_cons_of_mem _ (List.mem_filter.mpr ⟨zz_lst_mem.mpr ⟨w, hj, rfl⟩, ?_⟩))
    by_cases hj1 : j + 1 = i
    · have hc := zz_nl_of hn hj hj1
      simp [hji, zz_cat_v, hc]
    · simp [hji, hj1]
theorem zz_Lh_set2 {ls : Array Slot} {nL i : Nat} {L : List (Option zz_V)} {v : zz_V} (hn : zz_nl L i = true)
    (h : lv_has ls nL ((i, zz_v v) :: (zz_lst L).filter (fun q => !(q.1 == i) && (!(q.1 == i + 1) && !(q.1 + 1 == i && q.2.category == 2))))) : zz_Lh ls nL ((L.set i (some v)).set (i + 1) none) := by
  refine ⟨h.1, h.2.1, fun j w hj => ?_⟩
  by_cases hj2 : j = i + 1
  · exfalso
    subst hj2
    by_cases hl : i + 1 < (L.set i (some v)).length
    · rw [List.getElem?_set_self hl] at hj
      cases hj
    · rw [List.getElem?_eq_none (by simpa using Nat.le_of_not_lt hl)] at hj
      cases hj
  rw [List.getElem?_set_ne (Ne.symm hj2)] at hj
  by_cases hji : j = i
  · subst hji
    have hlt : j < L.length := by
      have := (List.getElem?_eq_some_iff.mp hj).1
      simpa using this
    rw [List.getElem?_set_self hlt] at hj
    cases hj
    exact h.2.2 _ List.mem_cons_self
  · rw [List.getElem?_set_ne (Ne.symm hji)] at hj
    refine h.2.2 (j, zz_v w) (List.mem_cons_of_mem _ (List.mem_filter.mpr ⟨zz_lst_mem.mpr ⟨w, hj, rfl⟩, ?_⟩))
    by_cases hj1 : j + 1 = i
    · have hc := zz_nl_of hn hj hj1
      simp [hji, hj2, zz_cat_v, hc]
    · simp [hji, hj2, hj1]
theorem zz_TL_set {h : zz_H} {L : List (Option zz_V)} {i : Nat} {v : zz_V} (hT : zz_TL h L) (hv : zz_ty h v) : zz_TL h (L.set i (some v)) := by
  intro j w hj
  by_cases hji : j = i
  · subst hji
    have hlt : j < L.length := by
      have := (List.getElem?_eq_some_iff.mp hj).1
      simpa using this
    rw [List.getElem?_set_self hlt] at hj
    cases hj
    exact hv
  · rw [List.getElem?_set_ne (Ne.symm hji)] at hj
    exact hT j w hj
theorem zz_TL_none {h : zz_H} {L : List (Option zz_V)} {i : Nat} (hT : zz_TL h L) : zz_TL h (L.set i none) := by
  intro j w hj
  by_cases hji : j = i
  · subst hji
    have hlt : j < L.length := by
      have := (List.getElem?_eq_some_iff.mp hj).1
      simpa using this
    rw [List.getElem?_set_self hlt] at hj
    cases hj
  · rw [List.getElem?_set_ne (Ne.symm hji)] at hj
    exact hT j w hj
theorem zz_TL_le {h h' : zz_H} {L : List (Option zz_V)} (hl : ∀ a t, zz_tg h a = some t → zz_tg h' a = some t) (hT : zz_TL h L) : zz_TL h' L := fun i v q => zz_ty_le hl (hT i v q)
/-- fewer locals are known -/
def zz_msk : List (Option zz_V) → List Bool → List (Option zz_V)
  | o :: L, b :: M => (bif b then o else none) :: zz_msk L M
  | _, _ => []
theorem zz_msk_at {L : List (Option zz_V)} : ∀ {M : List Bool} {i : Nat} {v : zz_V}, (zz_msk L M)[i]? = some (some v) → L[i]? = some (some v) := by
  induction L with
  | nil => intro M i v hq; cases M <;> simp [zz_msk] at hq
  | cons o L ih =>
    intro M i v hq
    cases M with
    | nil => simp [zz_msk] at hq
    | cons b M =>
      cases i with
      | zero =>
        cases b
        · simp [zz_msk] at hq
        · simpa [zz_msk] using hq
      | succ i =>
        simp only [zz_msk, List.getElem?_cons_succ] at hq ⊢
        exact ih hq
end
section
/-! the judgement of the small machine and a rule an instruction -/
def zz_K (D : va_G) (DA : Nat → ClassId) (U : State) : Prop := va_K D zz_cl (zz_ats DA) U
def zz_C (p : Program) (s : State) (m : MethodId) (args : Array Value) (c : Code) (cc : ByteArray) (nL : Nat) (own : String) (D : va_G) (DA : Nat → ClassId) : Prop := CallFix p m c cc nL s args zz_all own ∧ zz_K D DA s
def zz_Z (p : Program) (l : Launch) (e : Env) (R : Room) (s : State) (m : MethodId) (args : Array Value) (below : List Frame) (meth : Method) (c : Code) (Q : State → Prop) (D : va_G) (DA : Nat → ClassId) (A : Nat → Prop) (h0 : zz_H) (nL : Nat) (pc : Nat) (L : List (Option zz_V)) (S : List zz_V) (h : zz_H) (kc ns : Nat) : Prop :=
  ∀ (H : Heap) (locs : List Loc) (ls : Array Slot), zz_W D DA s h H → zz_S A s.heap h H locs → zz_le h0 h → zz_TL h L → zz_T h S → zz_Lh ls nL L → W p l e R s m args below meth c H locs kc ns Q (F0 m pc ls (S.map zz_v))
theorem zz_T_c {h : zz_H} {v : zz_V} {S : List zz_V} (hv : zz_ty h v) (hS : zz_T h S) : zz_T h (v :: S) := fun w hw => by
  rcases List.mem_cons.mp hw with rfl | hw
  · exact hv
  · exact hS w hw
theorem zz_T_h {h : zz_H} {v : zz_V} {S : List zz_V} (hS : zz_T h (v :: S)) : zz_ty h v := hS v List.mem_cons_self
theorem zz_T_t {h : zz_H} {v : zz_V} {S : List zz_V} (hS : zz_T h (v :: S)) : zz_T h S := fun w hw => hS w (List.mem_cons_of_mem _ hw)
section ZR
variable {p : Program} {l : Launch} {e : Env} {R : Room} {s : State} {m : MethodId} {args : Array Value} {below : List Frame} {meth : Method} {c : Code} {Q : State → Prop}
variable {D : va_G} {DA : Nat → ClassId} {A : Nat → Prop} {h0 h : zz_H} {nL kc ns pc q : Nat} {cc : ByteArray} {own : String} {L : List (Option zz_V)} {S : List zz_V}
theorem zz_weak (M : List Bool) (k : (zz_Z p l e R s m args below meth c Q D DA A h0 nL pc (zz_msk L M) S h kc ns)) : (zz_Z p l e R s m args below meth c Q D DA A h0 nL pc L S h kc ns) := by
  intro H locs ls hW hS hle hTL hTS hL
  exact k H locs ls hW hS hle (fun i v hi => hTL i v (zz_msk_at hi)) hTS ⟨hL.1, hL.2.1, fun i v hi => hL.2.2 i v (zz_msk_at hi)⟩
theorem zz_wide {k n : Nat} (h1 : kc ≤ k) (h2 : ns ≤ n) (kk : (zz_Z p l e R s m args below meth c Q D DA A h0 nL pc L S h k n)) : (zz_Z p l e R s m args below meth c Q D DA A h0 nL pc L S h kc ns) := by
  intro H locs ls hW hS hle hTL hTS hL
  exact W.widen h1 h2 (kk H locs ls hW hS hle hTL hTS hL)
/-- what the heap's typing gives is at hand -/
theorem zz_know (k : zz_tyH h → zz_le h0 h → zz_TL h L → zz_T h S → (zz_Z p l e R s m args below meth c Q D DA A h0 nL pc L S h kc ns)) : (zz_Z p l e R s m args below meth c Q D DA A h0 nL pc L S h kc ns) := by
  intro H locs ls hW hS hle hTL hTS hL
  exact k hW.2.2 hle hTL hTS H locs ls hW hS hle hTL hTS hL
theorem zz_iconst (C : zz_C p s m args c cc nL own D DA) {n : Int} {x : Int32} (hd : decode cc pc = .ok (.iconst n, 1)) (hq : pc + 1 = q) (hv : Int32.ofInt n = x) (k : (zz_Z p l e R s m args below meth c Q D DA A h0 nL q L (zz_i x :: S) h kc ns)) : (zz_Z p l e R s m args below meth c Q D DA A h0 nL pc L S h kc ns) := by
  subst hq
  intro H locs ls hW hS hle hTL hTS hL
  exact lv_iconst C.1.1 C.1.2.1 hd hv (k H locs ls hW hS hle hTL (zz_T_c trivial hTS) hL)
theorem zz_bipush (C : zz_C p s m args c cc nL own D DA) {n : Int} {x : Int32} (hd : decode cc pc = .ok (.bipush n, 2)) (hq : pc + 2 = q) (hv : (Int8.ofInt n).toInt32 = x) (k : (zz_Z p l e R s m args below meth c Q D DA A h0 nL q L (zz_i x :: S) h kc ns)) : (zz_Z p l e R s m args below meth c Q D DA A h0 nL pc L S h kc ns) := by
  subst hq
  intro H locs ls hW hS hle hTL hTS hL
  exact lv_bipush C.1.1 C.1.2.1 hd hv (k H locs ls hW hS hle hTL (zz_T_c trivial hTS) hL)
theorem zz_sipush (C : zz_C p s m args c cc nL own D DA) {n : Int} {x : Int32} (hd : decode cc pc = .ok (.sipush n, 3)) (hq : pc + 3 = q) (hv : (Int16.ofInt n).toInt32 = x) (k : (zz_Z p l e R s m args below meth c Q D DA A h0 nL q L (zz_i x :: S) h kc ns)) : (zz_Z p l e R s m args below meth c Q D DA A h0 nL pc L S h kc ns) := by
  subst hq
  intro H locs ls hW hS hle hTL hTS hL
  exact lv_sipush C.1.1 C.1.2.1 hd hv (k H locs ls hW hS hle hTL (zz_T_c trivial hTS) hL)
theorem zz_lconst (C : zz_C p s m args c cc nL own D DA) {n : Fin 2} {x : Int64} (hd : decode cc pc = .ok (.lconst n, 1)) (hq : pc + 1 = q) (hv : Int64.ofNat (n : Nat) = x) (k : (zz_Z p l e R s m args below meth c Q D DA A h0 nL q L (zz_l x :: S) h kc ns)) : (zz_Z p l e R s m args below meth c Q D DA A h0 nL pc L S h kc ns) := by
  subst hq
  intro H locs ls hW hS hle hTL hTS hL
  exact lv_lconst C.1.1 C.1.2.1 hd hv (k H locs ls hW hS hle hTL (zz_T_c trivial hTS) hL)
theorem zz_ldc2 (C : zz_C p s m args c cc nL own D DA) {i : Nat} {x : Int64} (hw : Jvm.Cond.constantLong own i x ∈ zz_all) (hd : decode cc pc = .ok (.ldc2_w i, 3)) (hq : pc + 3 = q) (k : (zz_Z p l e R s m args below meth c Q D DA A h0 nL q L (zz_l x :: S) h kc ns)) : (zz_Z p l e R s m args below meth c Q D DA A h0 nL pc L S h kc ns) := by
  subst hq
  intro H locs ls hW hS hle hTL hTS hL
  exact lv_ldc2 C.1.1 C.1.2.1 C.1.2.2.2.1 (C.1.2.2.2.2 _ hw) hd (k H locs ls hW hS hle hTL (zz_T_c trivial hTS) hL)
theorem zz_null (C : zz_C p s m args c cc nL own D DA) (t : Nat) (hd : decode cc pc = .ok (.aconst_null, 1)) (hq : pc + 1 = q) (k : (zz_Z p l e R s m args below meth c Q D DA A h0 nL q L (zz_r t none :: S) h kc ns)) : (zz_Z p l e R s m args below meth c Q D DA A h0 nL pc L S h kc ns) := by
  subst hq
  intro H locs ls hW hS hle hTL hTS hL
  exact lv_null C.1.1 C.1.2.1 hd (k H locs ls hW hS hle hTL (zz_T_c (fun b hb => by cases hb) hTS) hL)
theorem zz_iload (C : zz_C p s m args c cc nL own D DA) {i : Nat} {x : Int32} (hd : decode cc pc = .ok (.iload i, 2)) (hq : pc + 2 = q) (hi : L[i]? = some (some (zz_i x))) (k : (zz_Z p l e R s m args below meth c Q D DA A h0 nL q L (zz_i x :: S) h kc ns)) : (zz_Z p l e R s m args below meth c Q D DA A h0 nL pc L S h kc ns) := by
  subst hq
  intro H locs ls hW hS hle hTL hTS hL
  exact lv_iload C.1.1 C.1.2.1 hd (hL.2.2 i _ hi) (k H locs ls hW hS hle hTL (zz_T_c trivial hTS) hL)
theorem zz_iload_n (C : zz_C p s m args c cc nL own D DA) {f : Fin 4} {i : Nat} {x : Int32} (hd : decode cc pc = .ok (.iload_n f, 1)) (hq : pc + 1 = q) (hf : (f : Nat) = i) (hi : L[i]? = some (some (zz_i x))) (k : (zz_Z p l e R s m args below meth c Q D DA A h0 nL q L (zz_i x :: S) h kc ns)) : (zz_Z p l e R s m args below meth c Q D DA A h0 nL pc L S h kc ns) := by
  subst hq
  intro H locs ls hW hS hle hTL hTS hL
  exact lv_iload_n C.1.1 C.1.2.1 hd hf (hL.2.2 i _ hi) (k H locs ls hW hS hle hTL (zz_T_c trivial hTS) hL)
theorem zz_lload (C : zz_C p s m args c cc nL own D DA) {i : Nat} {x : Int64} (hd : decode cc pc = .ok (.lload i, 2)) (hq : pc + 2 = q) (hi : L[i]? = some (some (zz_l x))) (k : (zz_Z p l e R s m args below meth c Q D DA A h0 nL q L (zz_l x :: S) h kc ns)) : (zz_Z p l e R s m args below meth c Q D DA A h0 nL pc L S h kc ns) := by
  subst hq
  intro H locs ls hW hS hle hTL hTS hL
  exact lv_lload C.1.1 C.1.2.1 hd (hL.2.2 i _ hi) (k H locs ls hW hS hle hTL (zz_T_c trivial hTS) hL)
theorem zz_lload_n (C : zz_C p s m args c cc nL own D DA) {f : Fin 4} {i : Nat} {x : Int64} (hd : decode cc pc = .ok (.lload_n f, 1)) (hq : pc + 1 = q) (hf : (f : Nat) = i) (hi : L[i]? = some (some (zz_l x))) (k : (zz_Z p l e R s m args below meth c Q D DA A h0 nL q L (zz_l x :: S) h kc ns)) : (zz_Z p l e R s m args below meth c Q D DA A h0 nL pc L S h kc ns) := by
  subst hq
  intro H locs ls hW hS hle hTL hTS hL
  exact lv_lload_n C.1.1 C.1.2.1 hd hf (hL.2.2 i _ hi) (k H locs ls hW hS hle hTL (zz_T_c trivial hTS) hL)
theorem zz_aload (C : zz_C p s m args c cc nL own D DA) {i t : Nat} {o : Option Nat} (hd : decode cc pc = .ok (.aload i, 2)) (hq : pc + 2 = q) (hi : L[i]? = some (some (zz_r t o))) (k : (zz_Z p l e R s m args below meth c Q D DA A h0 nL q L (zz_r t o :: S) h kc ns)) : (zz_Z p l e R s m args below meth c Q D DA A h0 nL pc L S h kc ns) := by
  subst hq
  intro H locs ls hW hS hle hTL hTS hL
  have w := k H locs ls hW hS hle hTL (zz_T_c (hTL i _ hi) hTS) hL
  have hl := hL.2.2 i _ hi
  cases o with
  | none => exact lv_aloadN C.1.1 C.1.2.1 hd hl w
  | some a => exact lv_aload C.1.1 C.1.2.1 hd hl w
theorem zz_aload_n (C : zz_C p s m args c cc nL own D DA) {f : Fin 4} {i t : Nat} {o : Option Nat} (hd : decode cc pc = .ok (.aload_n f, 1)) (hq : pc + 1 = q) (hf : (f : Nat) = i) (hi : L[i]? = some (some (zz_r t o))) (k : (zz_Z p l e R s m args below meth c Q D DA A h0 nL q L (zz_r t o :: S) h kc ns)) : (zz_Z p l e R s m args below meth c Q D DA A h0 nL pc L S h kc ns) := by
  subst hq
  intro H locs ls hW hS hle hTL hTS hL
  have w := k H locs ls hW hS hle hTL (zz_T_c (hTL i _ hi) hTS) hL
  have hl := hL.2.2 i _ hi
  cases o with
  | none => exact lv_aload_nN C.1.1 C.1.2.1 hd hf hl w
  | some a => exact lv_aload_n C.1.1 C.1.2.1 hd hf hl w
theorem zz_istore (C : zz_C p s m args c cc nL own D DA) {i : Nat} {x : Int32} (hd : decode cc pc = .ok (.istore i, 2)) (hq : pc + 2 = q) (hi : i < nL) (hn : zz_nl L i = true) (k : (zz_Z p l e R s m args below meth c Q D DA A h0 nL q (L.set i (some (zz_i x))) S h kc ns)) : (zz_Z p l e R s m args below meth c Q D DA A h0 nL pc L (zz_i x :: S) h kc ns) := by
  subst hq
  intro H locs ls hW hS hle hTL hTS hL
  exact lv_istore C.1.1 C.1.2.1 hd (zz_Lh_has hL) hi rfl (fun ls' hL' => k H locs ls' hW hS hle (zz_TL_set hTL trivial) (zz_T_t hTS) (zz_Lh_set1 (v := zz_i x) hn hL'))
theorem zz_istore_n (C : zz_C p s m args c cc nL own D DA) {f : Fin 4} {i : Nat} {x : Int32} (hd : decode cc pc = .ok (.istore_n f, 1)) (hq : pc + 1 = q) (hf : (f : Nat) = i) (hi : i < nL) (hn : zz_nl L i = true) (k : (zz_Z p l e R s m args below meth c Q D DA A h0 nL q (L.set i (some (zz_i x))) S h kc ns)) : (zz_Z p l e R s m args below meth c Q D DA A h0 nL pc L (zz_i x :: S) h kc ns) := by
  subst hq
  intro H locs ls hW hS hle hTL hTS hL
  exact lv_istore_n C.1.1 C.1.2.1 hd hf (zz_Lh_has hL) hi rfl (fun ls' hL' => k H locs ls' hW hS hle (zz_TL_set hTL trivial) (zz_T_t hTS) (zz_Lh_set1 (v := zz_i x) hn hL'))
theorem zz_lstore (C : zz_C p s m args c cc nL own D DA) {i : Nat} {x : Int64} (hd : decode cc pc = .ok (.lstore i, 2)) (hq : pc + 2 = q) (hi : i + 1 < nL) (hn : zz_nl L i = true) (k : (zz_Z p l e R s m args below meth c Q D DA A h0 nL q ((L.set i (some (zz_l x))).set (i + 1) none) S h kc ns)) : (zz_Z p l e R s m args below meth c Q D DA A h0 nL pc L (zz_l x :: S) h kc ns) := by
  subst hq
  intro H locs ls hW hS hle hTL hTS hL
  exact lv_lstore C.1.1 C.1.2.1 hd (zz_Lh_has hL) hi rfl (fun ls' hL' => k H locs ls' hW hS hle (zz_TL_none (zz_TL_set hTL trivial)) (zz_T_t hTS) (zz_Lh_set2 (v := zz_l x) hn hL'))
theorem zz_lstore_n (C : zz_C p s m args c cc nL own D DA) {f : Fin 4} {i : Nat} {x : Int64} (hd : decode cc pc = .ok (.lstore_n f, 1)) (hq : pc + 1 = q) (hf : (f : Nat) = i) (hi : i + 1 < nL) (hn : zz_nl L i = true) (k : (zz_Z p l e R s m args below meth c Q D DA A h0 nL q ((L.set i (some (zz_l x))).set (i + 1) none) S h kc ns)) : (zz_Z p l e R s m args below meth c Q D DA A h0 nL pc L (zz_l x :: S) h kc ns) := by
  subst hq
  intro H locs ls hW hS hle hTL hTS hL
  exact lv_lstore_n C.1.1 C.1.2.1 hd hf (zz_Lh_has hL) hi rfl (fun ls' hL' => k H locs ls' hW hS hle (zz_TL_none (zz_TL_set hTL trivial)) (zz_T_t hTS) (zz_Lh_set2 (v := zz_l x) hn hL'))
theorem zz_astore (C : zz_C p s m args c cc nL own D DA) {i t : Nat} {o : Option Nat} (hd : decode cc pc = .ok (.astore i, 2)) (hq : pc + 2 = q) (hi : i < nL) (hn : zz_nl L i = true) (k : (zz_Z p l e R s m args below meth c Q D DA A h0 nL q (L.set i (some (zz_r t o))) S h kc ns)) : (zz_Z p l e R s m args below meth c Q D DA A h0 nL pc L (zz_r t o :: S) h kc ns) := by
  subst hq
  intro H locs ls hW hS hle hTL hTS hL
  have kk := fun ls' hL' => k H locs ls' hW hS hle (zz_TL_set hTL (zz_T_h hTS)) (zz_T_t hTS) (zz_Lh_set1 (v := zz_r t o) hn hL')
  cases o with
  | none => exact lv_astoreN C.1.1 C.1.2.1 hd (zz_Lh_has hL) hi rfl kk
  | some a => exact lv_astore C.1.1 C.1.2.1 hd (zz_Lh_has hL) hi rfl kk
theorem zz_astore_n (C : zz_C p s m args c cc nL own D DA) {f : Fin 4} {i t : Nat} {o : Option Nat} (hd : decode cc pc = .ok (.astore_n f, 1)) (hq : pc + 1 = q) (hf : (f : Nat) = i) (hi : i < nL) (hn : zz_nl L i = true) (k : (zz_Z p l e R s m args below meth c Q D DA A h0 nL q (L.set i (some (zz_r t o))) S h kc ns)) : (zz_Z p l e R s m args below meth c Q D DA A h0 nL pc L (zz_r t o :: S) h kc ns) := by
  subst hq
  intro H locs ls hW hS hle hTL hTS hL
  have kk := fun ls' hL' => k H locs ls' hW hS hle (zz_TL_set hTL (zz_T_h hTS)) (zz_T_t hTS) (zz_Lh_set1 (v := zz_r t o) hn hL')
  cases o with
  | none => exact lv_astore_nN C.1.1 C.1.2.1 hd hf (zz_Lh_has hL) hi rfl kk
  | some a => exact lv_astore_n C.1.1 C.1.2.1 hd hf (zz_Lh_has hL) hi rfl kk
theorem zz_iinc (C : zz_C p s m args c cc nL own D DA) {i : Nat} {n : Int} {x y : Int32} (hd : decode cc pc = .ok (.iinc i n, 3)) (hq : pc + 3 = q) (hx : L[i]? = some (some (zz_i x))) (hy : x + Int32.ofInt n = y) (hi : i < nL) (hn : zz_nl L i = true) (k : (zz_Z p l e R s m args below meth c Q D DA A h0 nL q (L.set i (some (zz_i y))) S h kc ns)) : (zz_Z p l e R s m args below meth c Q D DA A h0 nL pc L S h kc ns) := by
  subst hq
  intro H locs ls hW hS hle hTL hTS hL
  have hm : (i, Value.int x) ∈ zz_lst L := zz_lst_mem.mpr ⟨_, hx, rfl⟩
  obtain ⟨j, hj⟩ := List.getElem?_of_mem hm
  exact lv_iinc C.1.1 C.1.2.1 hd (zz_Lh_has hL) hj hy hi rfl (fun ls' hL' => k H locs ls' hW hS hle (zz_TL_set hTL trivial) hTS (zz_Lh_set1 (v := zz_i y) hn hL'))
theorem zz_iadd (C : zz_C p s m args c cc nL own D DA) {x y z : Int32} (hd : decode cc pc = .ok (.iadd, 1)) (hq : pc + 1 = q) (hz : x + y = z) (k : (zz_Z p l e R s m args below meth c Q D DA A h0 nL q L (zz_i z :: S) h kc ns)) : (zz_Z p l e R s m args below meth c Q D DA A h0 nL pc L (zz_i y :: zz_i x :: S) h kc ns) := by
  subst hq
  subst hz
  intro H locs ls hW hS hle hTL hTS hL
  exact lv_iadd C.1.1 C.1.2.1 hd (k H locs ls hW hS hle hTL (zz_T_c trivial (zz_T_t (zz_T_t hTS))) hL)
theorem zz_isub (C : zz_C p s m args c cc nL own D DA) {x y z : Int32} (hd : decode cc pc = .ok (.isub, 1)) (hq : pc + 1 = q) (hz : x - y = z) (k : (zz_Z p l e R s m args below meth c Q D DA A h0 nL q L (zz_i z :: S) h kc ns)) : (zz_Z p l e R s m args below meth c Q D DA A h0 nL pc L (zz_i y :: zz_i x :: S) h kc ns) := by
  subst hq
  subst hz
  intro H locs ls hW hS hle hTL hTS hL
  exact lv_isub C.1.1 C.1.2.1 hd (k H locs ls hW hS hle hTL (zz_T_c trivial (zz_T_t (zz_T_t hTS))) hL)
theorem zz_imul (C : zz_C p s m args c cc nL own D DA) {x y z : Int32} (hd : decode cc pc = .ok (.imul, 1)) (hq : pc + 1 = q) (hz : x * y = z) (k : (zz_Z p l e R s m args below meth c Q D DA A h0 nL q L (zz_i z :: S) h kc ns)) : (zz_Z p l e R s m args below meth c Q D DA A h0 nL pc L (zz_i y :: zz_i x :: S) h kc ns) := by
  subst hq
  subst hz
  intro H locs ls hW hS hle hTL hTS hL
  exact lv_imul C.1.1 C.1.2.1 hd (k H locs ls hW hS hle hTL (zz_T_c trivial (zz_T_t (zz_T_t hTS))) hL)
theorem zz_iand (C : zz_C p s m args c cc nL own D DA) {x y z : Int32} (hd : decode cc pc = .ok (.iand, 1)) (hq : pc + 1 = q) (hz : x &&& y = z) (k : (zz_Z p l e R s m args below meth c Q D DA A h0 nL q L (zz_i z :: S) h kc ns)) : (zz_Z p l e R s m args below meth c Q D DA A h0 nL pc L (zz_i y :: zz_i x :: S) h kc ns) := by
  subst hq
  subst hz
  intro H locs ls hW hS hle hTL hTS hL
  exact lv_iand C.1.1 C.1.2.1 hd (k H locs ls hW hS hle hTL (zz_T_c trivial (zz_T_t (zz_T_t hTS))) hL)
theorem zz_i2l (C : zz_C p s m args c cc nL own D DA) {x : Int32} {z : Int64} (hd : decode cc pc = .ok (.i2l, 1)) (hq : pc + 1 = q) (hz : x.toInt64 = z) (k : (zz_Z p l e R s m args below meth c Q D DA A h0 nL q L (zz_l z :: S) h kc ns)) : (zz_Z p l e R s m args below meth c Q D DA A h0 nL pc L (zz_i x :: S) h kc ns) := by
  subst hq
  intro H locs ls hW hS hle hTL hTS hL
  exact lv_i2l C.1.1 C.1.2.1 hd hz (k H locs ls hW hS hle hTL (zz_T_c trivial (zz_T_t hTS)) hL)
theorem zz_lcmp (C : zz_C p s m args c cc nL own D DA) {x y : Int64} (hd : decode cc pc = .ok (.lcmp, 1)) (hq : pc + 1 = q) (k : (zz_Z p l e R s m args below meth c Q D DA A h0 nL q L (zz_i (lg_cmp x y) :: S) h kc ns)) : (zz_Z p l e R s m args below meth c Q D DA A h0 nL pc L (zz_l y :: zz_l x :: S) h kc ns) := by
  subst hq
  intro H locs ls hW hS hle hTL hTS hL
  exact W.lcmp C.1.1 C.1.2.1 hd (k H locs ls hW hS hle hTL (zz_T_c trivial (zz_T_t (zz_T_t hTS))) hL)
theorem zz_dup (C : zz_C p s m args c cc nL own D DA) {v : zz_V} (hd : decode cc pc = .ok (.dup, 1)) (hq : pc + 1 = q) (hv : zz_cat v = 1) (k : (zz_Z p l e R s m args below meth c Q D DA A h0 nL q L (v :: v :: S) h kc ns)) : (zz_Z p l e R s m args below meth c Q D DA A h0 nL pc L (v :: S) h kc ns) := by
  subst hq
  intro H locs ls hW hS hle hTL hTS hL
  exact lv_dup C.1.1 C.1.2.1 hd ((zz_cat_v v).trans hv) (k H locs ls hW hS hle hTL (zz_T_c (zz_T_h hTS) hTS) hL)
theorem zz_pop (C : zz_C p s m args c cc nL own D DA) {v : zz_V} (hd : decode cc pc = .ok (.pop, 1)) (hq : pc + 1 = q) (hv : zz_cat v = 1) (k : (zz_Z p l e R s m args below meth c Q D DA A h0 nL q L S h kc ns)) : (zz_Z p l e R s m args below meth c Q D DA A h0 nL pc L (v :: S) h kc ns) := by
  subst hq
  intro H locs ls hW hS hle hTL hTS hL
  exact lv_pop C.1.1 C.1.2.1 hd ((zz_cat_v v).trans hv) (k H locs ls hW hS hle hTL (zz_T_t hTS) hL)
theorem zz_dup_x1 (C : zz_C p s m args c cc nL own D DA) {v w : zz_V} (hd : decode cc pc = .ok (.dup_x1, 1)) (hq : pc + 1 = q) (hv : zz_cat v = 1) (hw : zz_cat w = 1) (k : (zz_Z p l e R s m args below meth c Q D DA A h0 nL q L (v :: w :: v :: S) h kc ns)) : (zz_Z p l e R s m args below meth c Q D DA A h0 nL pc L (v :: w :: S) h kc ns) := by
  subst hq
  intro H locs ls hW hS hle hTL hTS hL
  exact lv_dup_x1 C.1.1 C.1.2.1 hd ((zz_cat_v v).trans hv) ((zz_cat_v w).trans hw) (k H locs ls hW hS hle hTL (zz_T_c (zz_T_h hTS) (zz_T_c (zz_T_h (zz_T_t hTS)) (zz_T_c (zz_T_h hTS) (zz_T_t (zz_T_t hTS))))) hL)
theorem zz_dup2 (C : zz_C p s m args c cc nL own D DA) {v w : zz_V} (hd : decode cc pc = .ok (.dup2, 1)) (hq : pc + 1 = q) (hv : zz_cat v = 1) (hw : zz_cat w = 1) (k : (zz_Z p l e R s m args below meth c Q D DA A h0 nL q L (v :: w :: v :: w :: S) h kc ns)) : (zz_Z p l e R s m args below meth c Q D DA A h0 nL pc L (v :: w :: S) h kc ns) := by
  subst hq
  intro H locs ls hW hS hle hTL hTS hL
  exact lv_dup2_11 C.1.1 C.1.2.1 hd ((zz_cat_v v).trans hv) ((zz_cat_v w).trans hw) (k H locs ls hW hS hle hTL (zz_T_c (zz_T_h hTS) (zz_T_c (zz_T_h (zz_T_t hTS)) hTS)) hL)
theorem zz_icmp_eq (C : zz_C p s m args c cc nL own D DA) {x y : Int32} {off : Int} {tgt : Nat} (hd : decode cc pc = .ok (.if_icmp .eq off, 3)) (ht : (pc : Int) + off = (tgt : Int)) (hq : pc + 3 = q) (kt : x = y → (zz_Z p l e R s m args below meth c Q D DA A h0 nL tgt L S h kc ns)) (kf : ¬ x = y → (zz_Z p l e R s m args below meth c Q D DA A h0 nL q L S h kc ns)) : (zz_Z p l e R s m args below meth c Q D DA A h0 nL pc L (zz_i y :: zz_i x :: S) h kc ns) := by
  subst hq
  intro H locs ls hW hS hle hTL hTS hL
  exact lv_icmp_eq C.1.1 C.1.2.1 hd ht (fun w => kt w H locs ls hW hS hle hTL (zz_T_t (zz_T_t hTS)) hL) (fun w => kf w H locs ls hW hS hle hTL (zz_T_t (zz_T_t hTS)) hL)
theorem zz_if_eq (C : zz_C p s m args c cc nL own D DA) {x : Int32} {off : Int} {tgt : Nat} (hd : decode cc pc = .ok (.ifCond .eq off, 3)) (ht : (pc : Int) + off = (tgt : Int)) (hq : pc + 3 = q) (kt : x = 0 → (zz_Z p l e R s m args below meth c Q D DA A h0 nL tgt L S h kc ns)) (kf : ¬ x = 0 → (zz_Z p l e R s m args below meth c Q D DA A h0 nL q L S h kc ns)) : (zz_Z p l e R s m args below meth c Q D DA A h0 nL pc L (zz_i x :: S) h kc ns) := by
  subst hq
  intro H locs ls hW hS hle hTL hTS hL
  exact lv_if_eq C.1.1 C.1.2.1 hd ht (fun w => kt w H locs ls hW hS hle hTL (zz_T_t hTS) hL) (fun w => kf w H locs ls hW hS hle hTL (zz_T_t hTS) hL)
theorem zz_icmp_ne (C : zz_C p s m args c cc nL own D DA) {x y : Int32} {off : Int} {tgt : Nat} (hd : decode cc pc = .ok (.if_icmp .ne off, 3)) (ht : (pc : Int) + off = (tgt : Int)) (hq : pc + 3 = q) (kt : ¬ x = y → (zz_Z p l e R s m args below meth c Q D DA A h0 nL tgt L S h kc ns)) (kf : x = y → (zz_Z p l e R s m args below meth c Q D DA A h0 nL q L S h kc ns)) : (zz_Z p l e R s m args below meth c Q D DA A h0 nL pc L (zz_i y :: zz_i x :: S) h kc ns) := by
  subst hq
  intro H locs ls hW hS hle hTL hTS hL
  exact lv_icmp_ne C.1.1 C.1.2.1 hd ht (fun w => kt w H locs ls hW hS hle hTL (zz_T_t (zz_T_t hTS)) hL) (fun w => kf w H locs ls hW hS hle hTL (zz_T_t (zz_T_t hTS)) hL)
theorem zz_if_ne (C : zz_C p s m args c cc nL own D DA) {x : Int32} {off : Int} {tgt : Nat} (hd : decode cc pc = .ok (.ifCond .ne off, 3)) (ht : (pc : Int) + off = (tgt : Int)) (hq : pc + 3 = q) (kt : ¬ x = 0 → (zz_Z p l e R s m args below meth c Q D DA A h0 nL tgt L S h kc ns)) (kf : x = 0 → (zz_Z p l e R s m args below meth c Q D DA A h0 nL q L S h kc ns)) : (zz_Z p l e R s m args below meth c Q D DA A h0 nL pc L (zz_i x :: S) h kc ns) := by
  subst hq
  intro H locs ls hW hS hle hTL hTS hL
  exact lv_if_ne C.1.1 C.1.2.1 hd ht (fun w => kt w H locs ls hW hS hle hTL (zz_T_t hTS) hL) (fun w => kf w H locs ls hW hS hle hTL (zz_T_t hTS) hL)
theorem zz_icmp_lt (C : zz_C p s m args c cc nL own D DA) {x y : Int32} {off : Int} {tgt : Nat} (hd : decode cc pc = .ok (.if_icmp .lt off, 3)) (ht : (pc : Int) + off = (tgt : Int)) (hq : pc + 3 = q) (kt : x < y → (zz_Z p l e R s m args below meth c Q D DA A h0 nL tgt L S h kc ns)) (kf : ¬ x < y → (zz_Z p l e R s m args below meth c Q D DA A h0 nL q L S h kc ns)) : (zz_Z p l e R s m args below meth c Q D DA A h0 nL pc L (zz_i y :: zz_i x :: S) h kc ns) := by
  subst hq
  intro H locs ls hW hS hle hTL hTS hL
  exact lv_icmp_lt C.1.1 C.1.2.1 hd ht (fun w => kt w H locs ls hW hS hle hTL (zz_T_t (zz_T_t hTS)) hL) (fun w => kf w H locs ls hW hS hle hTL (zz_T_t (zz_T_t hTS)) hL)
theorem zz_if_lt (C : zz_C p s m args c cc nL own D DA) {x : Int32} {off : Int} {tgt : Nat} (hd : decode cc pc = .ok (.ifCond .lt off, 3)) (ht : (pc : Int) + off = (tgt : Int)) (hq : pc + 3 = q) (kt : x < 0 → (zz_Z p l e R s m args below meth c Q D DA A h0 nL tgt L S h kc ns)) (kf : ¬ x < 0 → (zz_Z p l e R s m args below meth c Q D DA A h0 nL q L S h kc ns)) : (zz_Z p l e R s m args below meth c Q D DA A h0 nL pc L (zz_i x :: S) h kc ns) := by
  subst hq
  intro H locs ls hW hS hle hTL hTS hL
  exact lv_if_lt C.1.1 C.1.2.1 hd ht (fun w => kt w H locs ls hW hS hle hTL (zz_T_t hTS) hL) (fun w => kf w H locs ls hW hS hle hTL (zz_T_t hTS) hL)
theorem zz_icmp_ge (C : zz_C p s m args c cc nL own D DA) {x y : Int32} {off : Int} {tgt : Nat} (hd : decode cc pc = .ok (.if_icmp .ge off, 3)) (ht : (pc : Int) + off = (tgt : Int)) (hq : pc + 3 = q) (kt : y ≤ x → (zz_Z p l e R s m args below meth c Q D DA A h0 nL tgt L S h kc ns)) (kf : ¬ y ≤ x → (zz_Z p l e R s m args below meth c Q D DA A h0 nL q L S h kc ns)) : (zz_Z p l e R s m args below meth c Q D DA A h0 nL pc L (zz_i y :: zz_i x :: S) h kc ns) := by
  subst hq
  intro H locs ls hW hS hle hTL hTS hL
  exact lv_icmp_ge C.1.1 C.1.2.1 hd ht (fun w => kt w H locs ls hW hS hle hTL (zz_T_t (zz_T_t hTS)) hL) (fun w => kf w H locs ls hW hS hle hTL (zz_T_t (zz_T_t hTS)) hL)
theorem zz_if_ge (C : zz_C p s m args c cc nL own D DA) {x : Int32} {off : Int} {tgt : Nat} (hd : decode cc pc = .ok (.ifCond .ge off, 3)) (ht : (pc : Int) + off = (tgt : Int)) (hq : pc + 3 = q) (kt : 0 ≤ x → (zz_Z p l e R s m args below meth c Q D DA A h0 nL tgt L S h kc ns)) (kf : ¬ 0 ≤ x → (zz_Z p l e R s m args below meth c Q D DA A h0 nL q L S h kc ns)) : (zz_Z p l e R s m args below meth c Q D DA A h0 nL pc L (zz_i x :: S) h kc ns) := by
  subst hq
  intro H locs ls hW hS hle hTL hTS hL
  exact lv_if_ge C.1.1 C.1.2.1 hd ht (fun w => kt w H locs ls hW hS hle hTL (zz_T_t hTS) hL) (fun w => kf w H locs ls hW hS hle hTL (zz_T_t hTS) hL)
theorem zz_icmp_gt (C : zz_C p s m args c cc nL own D DA) {x y : Int32} {off : Int} {tgt : Nat} (hd : decode cc pc = .ok (.if_icmp .gt off, 3)) (ht : (pc : Int) + off = (tgt : Int)) (hq : pc + 3 = q) (kt : y < x → (zz_Z p l e R s m args below meth c Q D DA A h0 nL tgt L S h kc ns)) (kf : ¬ y < x → (zz_Z p l e R s m args below meth c Q D DA A h0 nL q L S h kc ns)) : (zz_Z p l e R s m args below meth c Q D DA A h0 nL pc L (zz_i y :: zz_i x :: S) h kc ns) := by
  subst hq
  intro H locs ls hW hS hle hTL hTS hL
  exact lv_icmp_gt C.1.1 C.1.2.1 hd ht (fun w => kt w H locs ls hW hS hle hTL (zz_T_t (zz_T_t hTS)) hL) (fun w => kf w H locs ls hW hS hle hTL (zz_T_t (zz_T_t hTS)) hL)
theorem zz_if_gt (C : zz_C p s m args c cc nL own D DA) {x : Int32} {off : Int} {tgt : Nat} (hd : decode cc pc = .ok (.ifCond .gt off, 3)) (ht : (pc : Int) + off = (tgt : Int)) (hq : pc + 3 = q) (kt : 0 < x → (zz_Z p l e R s m args below meth c Q D DA A h0 nL tgt L S h kc ns)) (kf : ¬ 0 < x → (zz_Z p l e R s m args below meth c Q D DA A h0 nL q L S h kc ns)) : (zz_Z p l e R s m args below meth c Q D DA A h0 nL pc L (zz_i x :: S) h kc ns) := by
  subst hq
  intro H locs ls hW hS hle hTL hTS hL
  exact lv_if_gt C.1.1 C.1.2.1 hd ht (fun w => kt w H locs ls hW hS hle hTL (zz_T_t hTS) hL) (fun w => kf w H locs ls hW hS hle hTL (zz_T_t hTS) hL)
theorem zz_icmp_le (C : zz_C p s m args c cc nL own D DA) {x y : Int32} {off : Int} {tgt : Nat} (hd : decode cc pc = .ok (.if_icmp .le off, 3)) (ht : (pc : Int) + off = (tgt : Int)) (hq : pc + 3 = q) (kt : x ≤ y → (zz_Z p l e R s m args below meth c Q D DA A h0 nL tgt L S h kc ns)) (kf : ¬ x ≤ y → (zz_Z p l e R s m args below meth c Q D DA A h0 nL q L S h kc ns)) : (zz_Z p l e R s m args below meth c Q D DA A h0 nL pc L (zz_i y :: zz_i x :: S) h kc ns) := by
  subst hq
  intro H locs ls hW hS hle hTL hTS hL
  exact lv_icmp_le C.1.1 C.1.2.1 hd ht (fun w => kt w H locs ls hW hS hle hTL (zz_T_t (zz_T_t hTS)) hL) (fun w => kf w H locs ls hW hS hle hTL (zz_T_t (zz_T_t hTS)) hL)
theorem zz_if_le (C : zz_C p s m args c cc nL own D DA) {x : Int32} {off : Int} {tgt : Nat} (hd : decode cc pc = .ok (.ifCond .le off, 3)) (ht : (pc : Int) + off = (tgt : Int)) (hq : pc + 3 = q) (kt : x ≤ 0 → (zz_Z p l e R s m args below meth c Q D DA A h0 nL tgt L S h kc ns)) (kf : ¬ x ≤ 0 → (zz_Z p l e R s m args below meth c Q D DA A h0 nL q L S h kc ns)) : (zz_Z p l e R s m args below meth c Q D DA A h0 nL pc L (zz_i x :: S) h kc ns) := by
  subst hq
  intro H locs ls hW hS hle hTL hTS hL
  exact lv_if_le C.1.1 C.1.2.1 hd ht (fun w => kt w H locs ls hW hS hle hTL (zz_T_t hTS) hL) (fun w => kf w H locs ls hW hS hle hTL (zz_T_t hTS) hL)
theorem zz_acmp_eq (C : zz_C p s m args c cc nL own D DA) {ox oy : Option Nat} {tx ty : Nat} {off : Int} {tgt : Nat} (hd : decode cc pc = .ok (.if_acmp .eq off, 3)) (ht : (pc : Int) + off = (tgt : Int)) (hq : pc + 3 = q) (kt : ox = oy → (zz_Z p l e R s m args below meth c Q D DA A h0 nL tgt L S h kc ns)) (kf : ¬ ox = oy → (zz_Z p l e R s m args below meth c Q D DA A h0 nL q L S h kc ns)) : (zz_Z p l e R s m args below meth c Q D DA A h0 nL pc L (zz_r ty oy :: zz_r tx ox :: S) h kc ns) := by
  subst hq
  intro H locs ls hW hS hle hTL hTS hL
  exact lv_acmp_eq C.1.1 C.1.2.1 hd ht (fun w => kt w H locs ls hW hS hle hTL (zz_T_t (zz_T_t hTS)) hL) (fun w => kf w H locs ls hW hS hle hTL (zz_T_t (zz_T_t hTS)) hL)
theorem zz_acmp_ne (C : zz_C p s m args c cc nL own D DA) {ox oy : Option Nat} {tx ty : Nat} {off : Int} {tgt : Nat} (hd : decode cc pc = .ok (.if_acmp .ne off, 3)) (ht : (pc : Int) + off = (tgt : Int)) (hq : pc + 3 = q) (kt : ¬ ox = oy → (zz_Z p l e R s m args below meth c Q D DA A h0 nL tgt L S h kc ns)) (kf : ox = oy → (zz_Z p l e R s m args below meth c Q D DA A h0 nL q L S h kc ns)) : (zz_Z p l e R s m args below meth c Q D DA A h0 nL pc L (zz_r ty oy :: zz_r tx ox :: S) h kc ns) := by
  subst hq
  intro H locs ls hW hS hle hTL hTS hL
  exact lv_acmp_ne C.1.1 C.1.2.1 hd ht (fun w => kt w H locs ls hW hS hle hTL (zz_T_t (zz_T_t hTS)) hL) (fun w => kf w H locs ls hW hS hle hTL (zz_T_t (zz_T_t hTS)) hL)
theorem zz_ifnull (C : zz_C p s m args c cc nL own D DA) {o : Option Nat} {t : Nat} {off : Int} {tgt : Nat} (hd : decode cc pc = .ok (.ifnull off, 3)) (ht : (pc : Int) + off = (tgt : Int)) (hq : pc + 3 = q) (kt : o = none → (zz_Z p l e R s m args below meth c Q D DA A h0 nL tgt L S h kc ns)) (kf : ∀ a, o = some a → (zz_Z p l e R s m args below meth c Q D DA A h0 nL q L S h kc ns)) : (zz_Z p l e R s m args below meth c Q D DA A h0 nL pc L (zz_r t o :: S) h kc ns) := by
  subst hq
  intro H locs ls hW hS hle hTL hTS hL
  cases o with
  | none => exact lv_ifnullN C.1.1 C.1.2.1 hd ht (kt rfl H locs ls hW hS hle hTL (zz_T_t hTS) hL)
  | some a => exact lv_ifnull C.1.1 C.1.2.1 hd (kf a rfl H locs ls hW hS hle hTL (zz_T_t hTS) hL)
theorem zz_ifnonnull (C : zz_C p s m args c cc nL own D DA) {o : Option Nat} {t : Nat} {off : Int} {tgt : Nat} (hd : decode cc pc = .ok (.ifnonnull off, 3)) (ht : (pc : Int) + off = (tgt : Int)) (hq : pc + 3 = q) (kt : ∀ a, o = some a → (zz_Z p l e R s m args below meth c Q D DA A h0 nL tgt L S h kc ns)) (kf : o = none → (zz_Z p l e R s m args below meth c Q D DA A h0 nL q L S h kc ns)) : (zz_Z p l e R s m args below meth c Q D DA A h0 nL pc L (zz_r t o :: S) h kc ns) := by
  subst hq
  intro H locs ls hW hS hle hTL hTS hL
  cases o with
  | none => exact lv_ifnonnullN C.1.1 C.1.2.1 hd (kf rfl H locs ls hW hS hle hTL (zz_T_t hTS) hL)
  | some a => exact lv_ifnonnull C.1.1 C.1.2.1 hd ht (kt a rfl H locs ls hW hS hle hTL (zz_T_t hTS) hL)
theorem zz_goto (C : zz_C p s m args c cc nL own D DA) {off : Int} {tgt : Nat} (hd : decode cc pc = .ok (.goto off, 3)) (ht : (pc : Int) + off = (tgt : Int)) (k : (zz_Z p l e R s m args below meth c Q D DA A h0 nL tgt L S h kc ns)) : (zz_Z p l e R s m args below meth c Q D DA A h0 nL pc L S h kc ns) := by
  intro H locs ls hW hS hle hTL hTS hL
  exact lv_goto C.1.1 C.1.2.1 hd ht (k H locs ls hW hS hle hTL hTS hL)
theorem zz_tableOut (C : zz_C p s m args c cc nL own D DA) {dflt lo hi : Int} {offs : Array Int} {len : Nat} {x : Int32} {tgt : Nat} (hd : decode cc pc = .ok (.tableswitch dflt lo hi offs, len)) (hx : x.toInt < lo ∨ hi < x.toInt) (ht : (pc : Int) + dflt = (tgt : Int)) (k : (zz_Z p l e R s m args below meth c Q D DA A h0 nL tgt L S h kc ns)) : (zz_Z p l e R s m args below meth c Q D DA A h0 nL pc L (zz_i x :: S) h kc ns) := by
  intro H locs ls hW hS hle hTL hTS hL
  exact lv_tableOut C.1.1 C.1.2.1 hd hx ht (k H locs ls hW hS hle hTL (zz_T_t hTS) hL)
theorem zz_tableIn (C : zz_C p s m args c cc nL own D DA) {dflt lo hi : Int} {offs : Array Int} {len : Nat} {x : Int32} {off : Int} {tgt : Nat} (hd : decode cc pc = .ok (.tableswitch dflt lo hi offs, len)) (h1 : ¬ x.toInt < lo) (h2 : ¬ hi < x.toInt) (hf : offs[(x.toInt - lo).toNat]? = some off) (ht : (pc : Int) + off = (tgt : Int)) (k : (zz_Z p l e R s m args below meth c Q D DA A h0 nL tgt L S h kc ns)) : (zz_Z p l e R s m args below meth c Q D DA A h0 nL pc L (zz_i x :: S) h kc ns) := by
  intro H locs ls hW hS hle hTL hTS hL
  exact lv_tableIn C.1.1 C.1.2.1 hd h1 h2 hf ht (k H locs ls hW hS hle hTL (zz_T_t hTS) hL)
end ZR
end
section
/-! fields, arrays, new things -/
/-- the field that a pool entry names: class, place, static type (none: int), final -/
def zz_GF (own : String) (idx ci k : Nat) (t : Option Nat) (fin : Bool) : Prop := ∃ (CN : String) (T : u_T) (N : Nat), zz_cl[ci]? = some (CN, T, N) ∧ k < N ∧ Cond.fieldLink own idx CN (T k).2.1 (T k).2.2.1 ∈ zz_all ∧ zz_ft ci k = t ∧ (T k).2.2.2 = fin
/-- a final field is written by its own class's constructor alone -/
def zz_fin (own : String) (ci : Nat) (meth : Method) (fin : Bool) : Prop := fin = true → meth.name = "<init>" ∧ ∀ CN T N, zz_cl[ci]? = some (CN, T, N) → CN = own
theorem zz_fs_at {h : zz_H} {ci k a : Nat} (hk : k < zz_nf ci) : (zz_fs h ci a)[k]? = some (zz_fv h ci k a) := by
  unfold zz_fs
  rw [List.getElem?_map, List.getElem?_range hk]
  rfl
theorem zz_fs_len (h : zz_H) (ci a : Nat) : (zz_fs h ci a).length = zz_nf ci := by simp [zz_fs]
theorem zz_fs_eq {h h' : zz_H} {ci a a' : Nat} (hf : ∀ k, k < zz_nf ci → zz_fv h' ci k a' = zz_fv h ci k a) : zz_fs h' ci a' = zz_fs h ci a := by
  unfold zz_fs
  apply List.map_congr_left
  intro k hk
  exact hf k (List.mem_range.mp hk)
theorem zz_fs_set {h h' : zz_H} {ci k a : Nat} {v : Value} (hk : k < zz_nf ci) (hv : zz_fv h' ci k a = v) (hf : ∀ j, j ≠ k → zz_fv h' ci j a = zz_fv h ci j a) : zz_fs h' ci a = (zz_fs h ci a).set k v := by
  apply List.ext_getElem?
  intro j
  by_cases hj : j = k
  · subst hj
    rw [List.getElem?_set_self (by rw [zz_fs_len]; exact hk), zz_fs_at hk, hv]
  · rw [List.getElem?_set_ne (Ne.symm hj)]
    by_cases hn : j < zz_nf ci
    · rw [zz_fs_at hn, zz_fs_at hn, hf j hj]
    · rw [List.getElem?_eq_none (by rw [zz_fs_len]; omega), List.getElem?_eq_none (by rw [zz_fs_len]; omega)]
theorem zz_cell_of {DA : Nat → ClassId} {h h' : zz_H} {b : Nat} (ht : zz_tg h' b = zz_tg h b) (hI : ∀ c j, zz_fI h' c j b = zz_fI h c j b) (hR : ∀ c j, zz_fR h' c j b = zz_fR h c j b) (h1 : zz_aI h' b = zz_aI h b) (h2 : zz_aR h' b = zz_aR h b) (h3 : zz_aL h' b = zz_aL h b) : zz_cell DA h' b = zz_cell DA h b := by
  have hf : ∀ ty, zz_fs h' ty b = zz_fs h ty b := fun ty => zz_fs_eq (fun k _ => by unfold zz_fv; rw [hI, hR])
  unfold zz_cell
  rw [ht, h1, h2, h3]
  simp only [hf]
theorem zz_cell_obj {DA : Nat → ClassId} {h : zz_H} {a ci n : Nat} (ht : zz_tg h a = some (ci, n)) (hc : ci < 90) : zz_cell DA h a = some (.inr (ci, zz_fs h ci a)) := by
  unfold zz_cell
  rw [ht]
  simp [hc]
theorem zz_cell_int {DA : Nat → ClassId} {h : zz_H} {a n : Nat} (ht : zz_tg h a = some (90, n)) : zz_cell DA h a = some (.inl (DA 90, n, .inl (zz_aI h a))) := by
  unfold zz_cell
  rw [ht]
  simp
theorem zz_cell_boo {DA : Nat → ClassId} {h : zz_H} {a n : Nat} (ht : zz_tg h a = some (91, n)) : zz_cell DA h a = some (.inl (DA 91, n, .inl (zz_aI h a))) := by
  unfold zz_cell
  rw [ht]
  simp
theorem zz_cell_lon {DA : Nat → ClassId} {h : zz_H} {a n : Nat} (ht : zz_tg h a = some (92, n)) : zz_cell DA h a = some (.inl (DA 92, n, .inr (.inl (zz_aL h a)))) := by
  unfold zz_cell
  rw [ht]
  simp
theorem zz_cell_ref {DA : Nat → ClassId} {h : zz_H} {a n ty : Nat} (ht : zz_tg h a = some (ty, n)) (hty : 100 ≤ ty) : zz_cell DA h a = some (.inl (DA ty, n, .inr (.inr (.inr (.inr (zz_aR h a)))))) := by
  unfold zz_cell
  rw [ht]
  simp [show ¬ ty < 90 by omega, show ¬ ty = 93 by omega, show ¬ ty = 92 by omega, show ¬ ty < 100 by omega]
theorem zz_tyH_of {h h' : zz_H} (hT : zz_tyH h) (ht : zz_tg h' = zz_tg h) (hR : zz_fR h' = zz_fR h) (hA : zz_aR h' = zz_aR h) : zz_tyH h' := by
  have hv : ∀ v, zz_ty h v → zz_ty h' v := fun v hv => zz_ty_le (fun a t q => by rw [ht]; exact q) hv
  refine ⟨fun a ci n k ty h1 h2 h3 => ?_, fun a ty n j h1 h2 => ?_⟩
  · rw [ht] at h1
    rw [hR]
    exact hv _ (hT.1 a ci n k ty h1 h2 h3)
  · rw [ht] at h1
    rw [hA]
    exact hv _ (hT.2 a ty n j h1 h2)
section ZF
variable {p : Program} {l : Launch} {e : Env} {R : Room} {s : State} {m : MethodId} {args : Array Value} {below : List Frame} {meth : Method} {c : Code} {Q : State → Prop}
variable {D : va_G} {DA : Nat → ClassId} {A : Nat → Prop} {h0 h : zz_H} {nL kc ns pc q : Nat} {cc : ByteArray} {own : String} {L : List (Option zz_V)} {S : List zz_V}
theorem zz_getI (C : zz_C p s m args c cc nL own D DA) {xv : Int32} {idx ci k a : Nat} {o : Option Nat} {fin : Bool} (hG : zz_GF own idx ci k none fin) (hd : decode cc pc = .ok (.getfield idx, 3)) (hq : pc + 3 = q) (ho : o = some a) (hv : (zz_fI h ci k a) = xv) (kk : (zz_Z p l e R s m args below meth c Q D DA A h0 nL q L (zz_i xv :: S) h kc ns)) : (zz_Z p l e R s m args below meth c Q D DA A h0 nL pc L (zz_r ci o :: S) h kc ns) := by
  subst hv
  subst hq
  subst ho
  obtain ⟨CN, T, N, hcl, hk, hw, hft, -⟩ := hG
  obtain ⟨k1, k2, -, -, k5, k6, -⟩ := zz_okC ci CN T N hcl
  intro H locs ls hW hS hle hTL hTS hL
  obtain ⟨n, ht⟩ := (zz_T_h hTS) a rfl
  have hv : (zz_fs h ci a)[k]? = some (.int (zz_fI h ci k a)) := by
    rw [zz_fs_at (by rw [k2]; exact hk)]
    unfold zz_fv
    rw [hft]
  exact va_get C.1.1 C.1.2.1 C.1.2.2.2.2 k5 C.1.2.2.2.1 C.2 (zz_at1 hW (zz_cell_obj ht k1)) 0 rfl hcl k hk (C.1.2.2.2.2 _ hw) (fun x hx => by rw [k6 k hk] at hx; exact hx) hv hd (kk H locs ls hW hS hle hTL (zz_T_c trivial (zz_T_t hTS)) hL)
theorem zz_getR (C : zz_C p s m args c cc nL own D DA) {xv : Option Nat} {idx ci k a t : Nat} {o : Option Nat} {fin : Bool} (hG : zz_GF own idx ci k (some t) fin) (hd : decode cc pc = .ok (.getfield idx, 3)) (hq : pc + 3 = q) (ho : o = some a) (hv : (zz_fR h ci k a) = xv) (kk : (zz_Z p l e R s m args below meth c Q D DA A h0 nL q L (zz_r t xv :: S) h kc ns)) : (zz_Z p l e R s m args below meth c Q D DA A h0 nL pc L (zz_r ci o :: S) h kc ns) := by
  subst hv
  subst hq
  subst ho
  obtain ⟨CN, T, N, hcl, hk, hw, hft, -⟩ := hG
  obtain ⟨k1, k2, -, -, k5, k6, -⟩ := zz_okC ci CN T N hcl
  intro H locs ls hW hS hle hTL hTS hL
  obtain ⟨n, ht⟩ := (zz_T_h hTS) a rfl
  have hv : (zz_fs h ci a)[k]? = some (va_rf (zz_fR h ci k a)) := by
    rw [zz_fs_at (by rw [k2]; exact hk)]
    unfold zz_fv
    rw [hft]
  exact va_get C.1.1 C.1.2.1 C.1.2.2.2.2 k5 C.1.2.2.2.1 C.2 (zz_at1 hW (zz_cell_obj ht k1)) 0 rfl hcl k hk (C.1.2.2.2.2 _ hw) (fun x hx => by rw [k6 k hk] at hx; exact hx) hv hd (kk H locs ls hW hS hle hTL (zz_T_c (hW.2.2.1 a ci n k t ht k1 hft) (zz_T_t hTS)) hL)
/-- a write of a field, whatever its kind -/
theorem zz_put0 (C : zz_C p s m args c cc nL own D DA) {idx ci k a : Nat} {h' : zz_H} {v : Value} {t : Option Nat} {fin : Bool} (hG : zz_GF own idx ci k t fin) (hin : zz_fin own ci meth fin) (hd : decode cc pc = .ok (.putfield idx, 3))
    (hn : narrow (zz_fty ci k) v = v) (hfit : fits (zz_fty ci k) v = true) (hv : zz_fv h' ci k a = v) (hf : ∀ j, j ≠ k → zz_fv h' ci j a = zz_fv h ci j a) (ho : ∀ b, b ≠ a → zz_cell DA h' b = zz_cell DA h b) (htg : zz_tg h' = zz_tg h) (h93 : zz_aI h' = zz_aI h) (hty : zz_tyH h → zz_tyH h')
    {H : Heap} {locs : List Loc} {ls : Array Slot} {rest : List Value} {n : Nat} (ht : zz_tg h a = some (ci, n)) (hW : zz_W D DA s h H) (hS : zz_S A s.heap h H locs)
    (kk : ∀ H1 locs1, zz_W D DA s h' H1 → zz_S A s.heap h' H1 locs1 → W p l e R s m args below meth c H1 locs1 kc ns Q (F0 m (pc + 3) ls rest)) : W p l e R s m args below meth c H locs kc ns Q (F0 m pc ls (v :: .ref a :: rest)) := by
  obtain ⟨CN, T, N, hcl, hk, hw, hft, hfin⟩ := hG
  obtain ⟨k1, k2, k3, k4, k5, k6, k7⟩ := zz_okC ci CN T N hcl
  have hcell := zz_cell_obj (DA := DA) ht k1
  obtain ⟨q0, hq0⟩ := zz_pos hW hcell
  have hcell' : zz_cell DA h' a = some (.inr (ci, (zz_fs h ci a).set k v)) := by
    rw [zz_cell_obj (h := h') (by rw [htg]; exact ht) k1, zz_fs_set (by rw [k2]; exact hk) hv hf]
  have fin' : ∀ (H1 : Heap) (locs1 : List Loc), va_P D zz_cl ((zz_ws DA h H.size).set q0 (a, .inr (ci, (zz_fs h ci a).set k v))) H1 → va_D A ((zz_ws DA h H.size).set q0 (a, .inr (ci, (zz_fs h ci a).set k v))) → va_S A s.heap H1 locs1 → W p l e R s m args below meth c H1 locs1 kc ns Q (F0 m (pc + 3) ls rest) := by
    intro H1 locs1 hP1 _ hS1
    obtain ⟨w1, w2⟩ := zz_back hW hS hq0 hP1 hS1 hcell' ho htg (fun b n _ => by rw [h93]) (hty hW.2.2)
    exact kk H1 locs1 w1 w2
  have hl : k < (zz_fs h ci a).length := by rw [zz_fs_len, k2]; exact hk
  have hsame : ∀ x, s.fieldFound? (T k).1 (T k).2.1 (T k).2.2.1 = some x → s.fieldFound? CN (T k).2.1 (T k).2.2.1 = some x := fun x hx => by rw [k6 k hk] at hx; exact hx
  cases fin with
  | false => exact va_put C.1.1 C.1.2.1 C.1.2.2.2.2 k5 (zz_fty ci) k3 k4 C.1.2.2.2.1 C.2 (zz_toP hW) (zz_toD DA hS) hS.1 q0 hq0 hcl k hk (C.1.2.2.2.2 _ hw) hsame hfin (k3 k hk) hn hfit hl hd fin'
  | true => exact va_putF C.1.1 C.1.2.1 C.1.2.2.2.2 k5 (zz_fty ci) k3 k4 C.1.2.2.2.1 C.2 (zz_toP hW) (zz_toD DA hS) hS.1 q0 hq0 hcl k hk (C.1.2.2.2.2 _ hw) hsame hfin (hin rfl).1 ((k6 k hk).trans ((hin rfl).2 _ _ _ hcl)) (k3 k hk) hn hfit hl hd fin'
theorem zz_putI (C : zz_C p s m args c cc nL own D DA) {idx ci k a : Nat} {o : Option Nat} {x : Int32} {fin : Bool} (hG : zz_GF own idx ci k none fin) (hin : zz_fin own ci meth fin) (hb : zz_fty ci k = .boolean → x = 0 ∨ x = 1) (hd : decode cc pc = .ok (.putfield idx, 3)) (hq : pc + 3 = q) (ho : o = some a) (kk : (zz_Z p l e R s m args below meth c Q D DA A h0 nL q L S (zz_pI h ci k a x) kc ns)) : (zz_Z p l e R s m args below meth c Q D DA A h0 nL pc L (zz_i x :: zz_r ci o :: S) h kc ns) := by
  subst hq
  subst ho
  intro H locs ls hW hS hle hTL hTS hL
  obtain ⟨n, ht⟩ := (zz_T_h (zz_T_t hTS)) a rfl
  have hG' := hG
  obtain ⟨CN, T, N, hcl, hk, hw, hft, hfin⟩ := hG'
  obtain ⟨k1, k2, k3, k4, k5, k6, k7⟩ := zz_okC ci CN T N hcl
  have k8 := k7 k hk
  rw [hft] at k8
  have hnf : narrow (zz_fty ci k) (.int x) = .int x ∧ fits (zz_fty ci k) (.int x) = true := by
    rcases k8 with e1 | e1
    · rw [e1]; exact ⟨rfl, rfl⟩
    · rcases hb e1 with rfl | rfl <;> (rw [e1]; exact ⟨by decide +kernel, by decide +kernel⟩)
  refine zz_put0 (h := h) (h' := zz_pI h ci k a x) (v := .int x) C hG hin hd hnf.1 hnf.2 ?_ ?_ ?_ rfl rfl (fun hT => zz_tyH_of hT rfl rfl rfl) ht hW hS (fun H1 locs1 w1 w2 => kk H1 locs1 ls w1 w2 hle hTL (zz_T_t (zz_T_t hTS)) hL)
  · unfold zz_fv
    rw [hft, zz_fI_pI, if_pos ⟨rfl, rfl, rfl⟩]
  · intro j hj
    unfold zz_fv
    rw [zz_fR_pI, zz_fI_pI, if_neg (fun z => hj z.2.1)]
  · intro b hb
    exact zz_cell_of rfl (fun c' j => by rw [zz_fI_pI, if_neg (fun z => hb z.2.2)]) (fun _ _ => rfl) rfl rfl rfl
theorem zz_tyH_pR {ci k a t n : Nat} {o : Option Nat} (hft : zz_ft ci k = some t) (hT : zz_tyH h) (hv : zz_ty h (zz_r t o)) : zz_tyH (zz_pR h ci k a o) := by
  have hvv : ∀ v, zz_ty h v → zz_ty (zz_pR h ci k a o) v := fun v hv => zz_ty_le (fun a t q => q) hv
  refine ⟨fun a' ci' n' k' ty h1 h2 h3 => ?_, fun a' ty n' j h1 h2 => hvv _ (hT.2 a' ty n' j h1 h2)⟩
  rw [zz_fR_pR]
  by_cases hz : ci' = ci ∧ k' = k ∧ a' = a
  · rw [if_pos hz]
    obtain ⟨rfl, rfl, rfl⟩ := hz
    rw [hft] at h3
    cases h3
    exact hvv _ hv
  · rw [if_neg hz]
    exact hvv _ (hT.1 a' ci' n' k' ty h1 h2 h3)
theorem zz_putR (C : zz_C p s m args c cc nL own D DA) {idx ci k a t : Nat} {o x : Option Nat} {fin : Bool} (hG : zz_GF own idx ci k (some t) fin) (hin : zz_fin own ci meth fin) (hd : decode cc pc = .ok (.putfield idx, 3)) (hq : pc + 3 = q) (ho : o = some a) (kk : (zz_Z p l e R s m args below meth c Q D DA A h0 nL q L S (zz_pR h ci k a x) kc ns)) : (zz_Z p l e R s m args below meth c Q D DA A h0 nL pc L (zz_r t x :: zz_r ci o :: S) h kc ns) := by
  subst hq
  subst ho
  intro H locs ls hW hS hle hTL hTS hL
  obtain ⟨n, ht⟩ := (zz_T_h (zz_T_t hTS)) a rfl
  have hG' := hG
  obtain ⟨CN, T, N, hcl, hk, hw, hft, hfin⟩ := hG'
  obtain ⟨k1, k2, k3, k4, k5, k6, k7⟩ := zz_okC ci CN T N hcl
  have k8 := k7 k hk
  rw [hft] at k8
  have hnf : narrow (zz_fty ci k) (va_rf x) = va_rf x ∧ fits (zz_fty ci k) (va_rf x) = true := by
    rcases k8 with ⟨n, e1⟩ | ⟨n, e1⟩ <;> (rw [e1]; cases x <;> exact ⟨rfl, rfl⟩)
  refine zz_put0 (h := h) (h' := zz_pR h ci k a x) (v := va_rf x) C hG hin hd hnf.1 hnf.2 ?_ ?_ ?_ rfl rfl (fun hT => zz_tyH_pR (n := n) hft hT (zz_T_h hTS)) ht hW hS (fun H1 locs1 w1 w2 => kk H1 locs1 ls w1 w2 hle hTL (zz_T_t (zz_T_t hTS)) hL)
  · unfold zz_fv
    rw [hft]
    show va_rf (zz_fR (zz_pR h ci k a x) ci k a) = va_rf x
    rw [zz_fR_pR, if_pos ⟨rfl, rfl, rfl⟩]
  · intro j hj
    unfold zz_fv
    rw [zz_fI_pR, zz_fR_pR, if_neg (fun z => hj z.2.1)]
  · intro b hb
    exact zz_cell_of rfl (fun _ _ => rfl) (fun c' j => by rw [zz_fR_pR, if_neg (fun z => hb z.2.2)]) rfl rfl rfl
theorem zz_iaload (C : zz_C p s m args c cc nL own D DA) {xv : Int32} {a n j : Nat} {o : Option Nat} {x : Int32} (hd : decode cc pc = .ok (.iaload, 1)) (hq : pc + 1 = q) (ho : o = some a) (ht : zz_tg h a = some (90, n)) (hx : x = nI j) (hj : j < n) (hn : n < 2 ^ 31) (hv : (zz_aI h a j) = xv) (kk : (zz_Z p l e R s m args below meth c Q D DA A h0 nL q L (zz_i xv :: S) h kc ns)) : (zz_Z p l e R s m args below meth c Q D DA A h0 nL pc L (zz_i x :: zz_r 90 o :: S) h kc ns) := by
  subst hv
  subst hq
  subst ho
  subst hx
  intro H locs ls hW hS hle hTL hTS hL
  refine va_iald C.1.1 C.1.2.1 C.2 (zz_at1 hW (zz_cell_int ht)) 0 0 rfl rfl (vp_in_nI hj hn) hd ?_
  rw [nI_clamp (by omega)]
  exact kk H locs ls hW hS hle hTL (zz_T_c trivial (zz_T_t (zz_T_t hTS))) hL
theorem zz_baload (C : zz_C p s m args c cc nL own D DA) {xv : Int32} {a n j : Nat} {o : Option Nat} {x : Int32} (hd : decode cc pc = .ok (.baload, 1)) (hq : pc + 1 = q) (ho : o = some a) (ht : zz_tg h a = some (91, n)) (hx : x = nI j) (hj : j < n) (hn : n < 2 ^ 31) (hv : (zz_aI h a j) = xv) (kk : (zz_Z p l e R s m args below meth c Q D DA A h0 nL q L (zz_i xv :: S) h kc ns)) : (zz_Z p l e R s m args below meth c Q D DA A h0 nL pc L (zz_i x :: zz_r 91 o :: S) h kc ns) := by
  subst hv
  subst hq
  subst ho
  subst hx
  intro H locs ls hW hS hle hTL hTS hL
  refine va_zald C.1.1 C.1.2.1 C.2 (zz_at1 hW (zz_cell_boo ht)) 0 1 rfl rfl (vp_in_nI hj hn) hd ?_
  rw [nI_clamp (by omega)]
  exact kk H locs ls hW hS hle hTL (zz_T_c trivial (zz_T_t (zz_T_t hTS))) hL
theorem zz_laload (C : zz_C p s m args c cc nL own D DA) {xv : Int64} {a n j : Nat} {o : Option Nat} {x : Int32} (hd : decode cc pc = .ok (.laload, 1)) (hq : pc + 1 = q) (ho : o = some a) (ht : zz_tg h a = some (92, n)) (hx : x = nI j) (hj : j < n) (hn : n < 2 ^ 31) (hv : (zz_aL h a j) = xv) (kk : (zz_Z p l e R s m args below meth c Q D DA A h0 nL q L (zz_l xv :: S) h kc ns)) : (zz_Z p l e R s m args below meth c Q D DA A h0 nL pc L (zz_i x :: zz_r 92 o :: S) h kc ns) := by
  subst hv
  subst hq
  subst ho
  subst hx
  intro H locs ls hW hS hle hTL hTS hL
  refine va_lald C.1.1 C.1.2.1 C.2 (zz_at1 hW (zz_cell_lon ht)) 0 2 rfl rfl (vp_in_nI hj hn) hd ?_
  rw [nI_clamp (by omega)]
  exact kk H locs ls hW hS hle hTL (zz_T_c trivial (zz_T_t (zz_T_t hTS))) hL
theorem zz_aaload (C : zz_C p s m args c cc nL own D DA) {xv : Option Nat} {a n j ty : Nat} {o : Option Nat} {x : Int32} {CN : String} (t0 : Nat) (hat : (zz_ats DA)[t0]? = some (DA ty, .object CN)) (hty : 100 ≤ ty) (hd : decode cc pc = .ok (.aaload, 1)) (hq : pc + 1 = q) (ho : o = some a) (ht : zz_tg h a = some (ty, n)) (hx : x = nI j) (hj : j < n) (hn : n < 2 ^ 31) (hv : (zz_aR h a j) = xv) (kk : (zz_Z p l e R s m args below meth c Q D DA A h0 nL q L (zz_r (ty - 100) xv :: S) h kc ns)) : (zz_Z p l e R s m args below meth c Q D DA A h0 nL pc L (zz_i x :: zz_r ty o :: S) h kc ns) := by
  subst hv
  subst hq
  subst ho
  subst hx
  intro H locs ls hW hS hle hTL hTS hL
  refine va_aldq C.1.1 C.1.2.1 C.2 (zz_at1 hW (zz_cell_ref ht hty)) 0 t0 rfl hat (vp_in_nI hj hn) hd ?_
  rw [nI_clamp (by omega)]
  exact kk H locs ls hW hS hle hTL (zz_T_c (hW.2.2.2 a ty n j ht hty) (zz_T_t (zz_T_t hTS))) hL
/-- the script, which nobody writes -/
theorem zz_sload (C : zz_C p s m args c cc nL own D DA) {xv : Int32} {a n j : Nat} {o : Option Nat} {x : Int32} (hd : decode cc pc = .ok (.iaload, 1)) (hq : pc + 1 = q) (ho : o = some a) (ht : zz_tg h a = some (93, n)) (hx : x = nI j) (hj : j < n) (hn : n < 2 ^ 31) (hv : (zz_aI h a j) = xv) (kk : (zz_Z p l e R s m args below meth c Q D DA A h0 nL q L (zz_i xv :: S) h kc ns)) : (zz_Z p l e R s m args below meth c Q D DA A h0 nL pc L (zz_i x :: zz_r 93 o :: S) h kc ns) := by
  subst hv
  subst hq
  subst ho
  subst hx
  intro H locs ls hW hS hle hTL hTS hL
  obtain ⟨scr, h1, h2, h3, h4, h5⟩ := hW.2.1 a n ht
  have hc : (nI j).toNatClampNeg = j := nI_clamp (by omega)
  exact W.iald (v := .int (zz_aI h a j)) C.1.1 C.1.2.1 h1 h2 h3 (by rw [h4]; exact vp_in_nI hj hn) (by rw [hc]; exact h5 j hj) rfl rfl hd (kk H locs ls hW hS hle hTL (zz_T_c trivial (zz_T_t (zz_T_t hTS))) hL)
theorem zz_slen (C : zz_C p s m args c cc nL own D DA) {a n : Nat} {o : Option Nat} (hd : decode cc pc = .ok (.arraylength, 1)) (hq : pc + 1 = q) (ho : o = some a) (ht : zz_tg h a = some (93, n)) (kk : (zz_Z p l e R s m args below meth c Q D DA A h0 nL q L (zz_i (nI n) :: S) h kc ns)) : (zz_Z p l e R s m args below meth c Q D DA A h0 nL pc L (zz_r 93 o :: S) h kc ns) := by
  subst hq
  subst ho
  intro H locs ls hW hS hle hTL hTS hL
  obtain ⟨scr, h1, h2, h3, h4, h5⟩ := hW.2.1 a n ht
  exact W.alen (n := nI n) C.1.1 C.1.2.1 h1 h2 (by rw [h4] <;> rfl) rfl rfl hd (kk H locs ls hW hS hle hTL (zz_T_c trivial (zz_T_t hTS)) hL)
theorem zz_iastore (C : zz_C p s m args c cc nL own D DA) {a n j : Nat} {o : Option Nat} {x y : Int32} (hd : decode cc pc = .ok (.iastore, 1)) (hq : pc + 1 = q) (ho : o = some a) (ht : zz_tg h a = some (90, n)) (hx : x = nI j) (hj : j < n) (hn : n < 2 ^ 31) (kk : (zz_Z p l e R s m args below meth c Q D DA A h0 nL q L S (zz_sI h a j y) kc ns)) : (zz_Z p l e R s m args below meth c Q D DA A h0 nL pc L (zz_i y :: zz_i x :: zz_r 90 o :: S) h kc ns) := by
  subst hq
  subst ho
  subst hx
  intro H locs ls hW hS hle hTL hTS hL
  have hcell := zz_cell_int (DA := DA) ht
  obtain ⟨q0, hq0⟩ := zz_pos hW hcell
  refine va_iast C.1.1 C.1.2.1 C.2 (zz_toP hW) (zz_toD DA hS) hS.1 q0 0 hq0 rfl (vp_in_nI hj hn) hd (fun H1 locs1 hP1 _ hS1 => ?_)
  rw [nI_clamp (by omega)] at hP1
  obtain ⟨w1, w2⟩ := zz_back (h' := zz_sI h a j y) hW hS hq0 hP1 hS1 (by
    rw [zz_cell_int (h := zz_sI h a j y) (n := n) ht]
    have : zz_aI (zz_sI h a j y) a = upd (zz_aI h a) j y := by
      funext i
      rw [zz_aI_sI]
      simp [upd]
    rw [this]) (fun b hb => zz_cell_of rfl (fun _ _ => rfl) (fun _ _ => rfl) (by funext i; rw [zz_aI_sI, if_neg (fun z => hb z.1)]) rfl rfl) rfl (fun b n' hb => by
      funext i
      rw [zz_aI_sI, if_neg]
      rintro ⟨rfl, -⟩
      rw [ht] at hb
      cases hb) (zz_tyH_of hW.2.2 rfl rfl rfl)
  exact kk H1 locs1 ls w1 w2 hle hTL (zz_T_t (zz_T_t (zz_T_t hTS))) hL
theorem zz_bastore (C : zz_C p s m args c cc nL own D DA) {a n j : Nat} {o : Option Nat} {x y : Int32} (hd : decode cc pc = .ok (.bastore, 1)) (hq : pc + 1 = q) (ho : o = some a) (ht : zz_tg h a = some (91, n)) (hx : x = nI j) (hj : j < n) (hn : n < 2 ^ 31) (hy : y = 0 ∨ y = 1) (kk : (zz_Z p l e R s m args below meth c Q D DA A h0 nL q L S (zz_sI h a j y) kc ns)) : (zz_Z p l e R s m args below meth c Q D DA A h0 nL pc L (zz_i y :: zz_i x :: zz_r 91 o :: S) h kc ns) := by
  subst hq
  subst ho
  subst hx
  intro H locs ls hW hS hle hTL hTS hL
  have hcell := zz_cell_boo (DA := DA) ht
  obtain ⟨q0, hq0⟩ := zz_pos hW hcell
  have hnar : vp_nar .boolean y = y := by rcases hy with rfl | rfl <;> decide +kernel
  refine va_zast C.1.1 C.1.2.1 C.2 (zz_toP hW) (zz_toD DA hS) hS.1 q0 1 hq0 rfl (vp_in_nI hj hn) hd (fun H1 locs1 hP1 _ hS1 => ?_)
  rw [nI_clamp (by omega), hnar] at hP1
  obtain ⟨w1, w2⟩ := zz_back (h' := zz_sI h a j y) hW hS hq0 hP1 hS1 (by
    rw [zz_cell_boo (h := zz_sI h a j y) (n := n) ht]
    have : zz_aI (zz_sI h a j y) a = upd (zz_aI h a) j y := by
      funext i
      rw [zz_aI_sI]
      simp [upd]
    rw [this]) (fun b hb => zz_cell_of rfl (fun _ _ => rfl) (fun _ _ => rfl) (by funext i; rw [zz_aI_sI, if_neg (fun z => hb z.1)]) rfl rfl) rfl (fun b n' hb => by
      funext i
      rw [zz_aI_sI, if_neg]
      rintro ⟨rfl, -⟩
      rw [ht] at hb
      cases hb) (zz_tyH_of hW.2.2 rfl rfl rfl)
  exact kk H1 locs1 ls w1 w2 hle hTL (zz_T_t (zz_T_t (zz_T_t hTS))) hL
theorem zz_lastore (C : zz_C p s m args c cc nL own D DA) {a n j : Nat} {o : Option Nat} {x : Int32} {y : Int64} (hd : decode cc pc = .ok (.lastore, 1)) (hq : pc + 1 = q) (ho : o = some a) (ht : zz_tg h a = some (92, n)) (hx : x = nI j) (hj : j < n) (hn : n < 2 ^ 31) (kk : (zz_Z p l e R s m args below meth c Q D DA A h0 nL q L S (zz_sL h a j y) kc ns)) : (zz_Z p l e R s m args below meth c Q D DA A h0 nL pc L (zz_l y :: zz_i x :: zz_r 92 o :: S) h kc ns) := by
  subst hq
  subst ho
  subst hx
  intro H locs ls hW hS hle hTL hTS hL
  have hcell := zz_cell_lon (DA := DA) ht
  obtain ⟨q0, hq0⟩ := zz_pos hW hcell
  refine va_last C.1.1 C.1.2.1 C.2 (zz_toP hW) (zz_toD DA hS) hS.1 q0 2 hq0 rfl (vp_in_nI hj hn) hd (fun H1 locs1 hP1 _ hS1 => ?_)
  rw [nI_clamp (by omega)] at hP1
  obtain ⟨w1, w2⟩ := zz_back (h' := zz_sL h a j y) hW hS hq0 hP1 hS1 (by
    rw [zz_cell_lon (h := zz_sL h a j y) (n := n) ht]
    have : zz_aL (zz_sL h a j y) a = vp_updL (zz_aL h a) j y := by
      funext i
      rw [zz_aL_sL]
      simp [vp_updL]
    rw [this]) (fun b hb => zz_cell_of rfl (fun _ _ => rfl) (fun _ _ => rfl) rfl rfl (by funext i; rw [zz_aL_sL, if_neg (fun z => hb z.1)])) rfl (fun b n' hb => rfl) (zz_tyH_of hW.2.2 rfl rfl rfl)
  exact kk H1 locs1 ls w1 w2 hle hTL (zz_T_t (zz_T_t (zz_T_t hTS))) hL
theorem zz_tyH_sR {a j ty n : Nat} {o : Option Nat} (ht : zz_tg h a = some (ty, n)) (hT : zz_tyH h) (hv : zz_ty h (zz_r (ty - 100) o)) : zz_tyH (zz_sR h a j o) := by
  have hvv : ∀ v, zz_ty h v → zz_ty (zz_sR h a j o) v := fun v hv => zz_ty_le (fun a t q => q) hv
  refine ⟨fun a' ci' n' k' ty' h1 h2 h3 => hvv _ (hT.1 a' ci' n' k' ty' h1 h2 h3), fun a' ty' n' j' h1 h2 => ?_⟩
  rw [zz_aR_sR]
  by_cases hz : a' = a ∧ j' = j
  · rw [if_pos hz]
    obtain ⟨rfl, rfl⟩ := hz
    rw [show zz_tg (zz_sR h a' j' o) a' = zz_tg h a' from rfl, ht] at h1
    cases h1
    exact hvv _ hv
  · rw [if_neg hz]
    exact hvv _ (hT.2 a' ty' n' j' h1 h2)
theorem zz_aastore (C : zz_C p s m args c cc nL own D DA) {a n j ci : Nat} {o y : Option Nat} {x : Int32} {CN : String} {T : u_T} {N : Nat} (t0 : Nat) (hcl : zz_cl[ci]? = some (CN, T, N)) (hat : (zz_ats DA)[t0]? = some (DA (100 + ci), .object CN)) (hd : decode cc pc = .ok (.aastore, 1)) (hq : pc + 1 = q) (ho : o = some a) (ht : zz_tg h a = some (100 + ci, n)) (hx : x = nI j) (hj : j < n) (hn : n < 2 ^ 31) (kk : (zz_Z p l e R s m args below meth c Q D DA A h0 nL q L S (zz_sR h a j y) kc ns)) : (zz_Z p l e R s m args below meth c Q D DA A h0 nL pc L (zz_r ci y :: zz_i x :: zz_r (100 + ci) o :: S) h kc ns) := by
  subst hq
  subst ho
  subst hx
  intro H locs ls hW hS hle hTL hTS hL
  have k1 := (zz_okC ci CN T N hcl).1
  have hcell := zz_cell_ref (DA := DA) ht (by omega)
  obtain ⟨q0, hq0⟩ := zz_pos hW hcell
  have hvy : zz_ty h (zz_r (100 + ci - 100) y) := by
    rw [show 100 + ci - 100 = ci by omega]
    exact zz_T_h hTS
  have fin' : ∀ (H1 : Heap) (locs1 : List Loc), va_P D zz_cl ((zz_ws DA h H.size).set q0 (a, .inl (DA (100 + ci), n, .inr (.inr (.inr (.inr (va_up (zz_aR h a) j y))))))) H1 → va_S A s.heap H1 locs1 → W p l e R s m args below meth c H1 locs1 kc ns Q (F0 m (pc + 1) ls (S.map zz_v)) := by
    intro H1 locs1 hP1 hS1
    obtain ⟨w1, w2⟩ := zz_back (h' := zz_sR h a j y) hW hS hq0 hP1 hS1 (by
      rw [zz_cell_ref (h := zz_sR h a j y) (n := n) (ty := 100 + ci) ht (by omega)]
      have : zz_aR (zz_sR h a j y) a = va_up (zz_aR h a) j y := by
        funext i
        rw [zz_aR_sR]
        simp [va_up]
      rw [this]) (fun b hb => zz_cell_of rfl (fun _ _ => rfl) (fun _ _ => rfl) rfl (by funext i; rw [zz_aR_sR, if_neg (fun z => hb z.1)]) rfl) rfl (fun b n' hb => rfl) (zz_tyH_sR ht hW.2.2 hvy)
    exact kk H1 locs1 ls w1 w2 hle hTL (zz_T_t (zz_T_t (zz_T_t hTS))) hL
  cases y with
  | none =>
    refine va_astqN C.1.1 C.1.2.1 C.2 (zz_toP hW) (zz_toD DA hS) hS.1 q0 t0 hq0 hat (vp_in_nI hj hn) hd (fun H1 locs1 hP1 _ hS1 => ?_)
    rw [nI_clamp (by omega)] at hP1
    exact fin' H1 locs1 hP1 hS1
  | some v =>
    obtain ⟨nv, htv⟩ := (zz_T_h hTS) v rfl
    obtain ⟨qk, hqk⟩ := zz_pos hW (zz_cell_obj (DA := DA) htv k1)
    refine va_astq C.1.1 C.1.2.1 C.2 (zz_toP hW) (zz_toD DA hS) hS.1 q0 t0 qk ci (r := (CN, T, N)) hq0 hat hqk hcl (vp_in_nI hj hn) hd (fun H1 locs1 hP1 _ hS1 => ?_)
    rw [nI_clamp (by omega)] at hP1
    exact fin' H1 locs1 hP1 hS1
end ZF
end
section
/-! new things, copies, Object's constructor -/
def zz_fs0 (ci : Nat) : List Value := (List.range (zz_nf ci)).map (fun k => match zz_ft ci k with
  | none => Value.int 0
  | some _ => .null)
theorem zz_fs_new (h : zz_H) (ci a : Nat) : zz_fs (zz_new h ci a) ci a = zz_fs0 ci := by
  unfold zz_fs zz_fs0
  apply List.map_congr_left
  intro k _
  unfold zz_fv
  rw [zz_fI_new, zz_fR_new, if_pos ⟨rfl, rfl⟩, if_pos ⟨rfl, rfl⟩]
  cases zz_ft ci k <;> rfl
theorem zz_le_new {h : zz_H} {ci a : Nat} (hn : zz_tg h a = none) (h9 : ci ≠ 93) : zz_le h (zz_new h ci a) := by
  refine ⟨fun b t hb => ?_, fun b n hb => ?_⟩
  · rw [zz_tg_new, if_neg]
    · exact hb
    · rintro rfl
      rw [hn] at hb
      cases hb
  · rw [zz_tg_new] at hb
    by_cases hz : b = a
    · rw [if_pos hz] at hb
      cases hb
      exact absurd rfl h9
    · rw [if_neg hz] at hb
      exact hb
theorem zz_le_newA {h : zz_H} {ty n a : Nat} (hn : zz_tg h a = none) (h9 : ty ≠ 93) : zz_le h (zz_newA h ty n a) := by
  refine ⟨fun b t hb => ?_, fun b n hb => ?_⟩
  · rw [zz_tg_newA, if_neg]
    · exact hb
    · rintro rfl
      rw [hn] at hb
      cases hb
  · rw [zz_tg_newA] at hb
    by_cases hz : b = a
    · rw [if_pos hz] at hb
      cases hb
      exact absurd rfl h9
    · rw [if_neg hz] at hb
      exact hb
theorem zz_ty_none (h : zz_H) (t : Nat) : zz_ty h (zz_r t none) := fun b hb => by cases hb
theorem zz_tyH_new {h : zz_H} {ci a : Nat} (hT : zz_tyH h) (hn : zz_tg h a = none) (h9 : ci < 90) : zz_tyH (zz_new h ci a) := by
  have hvv : ∀ v, zz_ty h v → zz_ty (zz_new h ci a) v := fun v hv => zz_ty_le (zz_le_new hn (by omega)).1 hv
  refine ⟨fun a' ci' n' k' ty h1 h2 h3 => ?_, fun a' ty n' j h1 h2 => ?_⟩
  · rw [zz_fR_new]
    by_cases hz : a' = a
    · subst hz
      rw [zz_tg_new, if_pos rfl] at h1
      cases h1
      rw [if_pos ⟨rfl, rfl⟩]
      exact zz_ty_none _ _
    · rw [if_neg (fun z => hz z.2)]
      rw [zz_tg_new, if_neg hz] at h1
      exact hvv _ (hT.1 a' ci' n' k' ty h1 h2 h3)
  · rw [zz_aR_new]
    by_cases hz : a' = a
    · subst hz
      rw [zz_tg_new, if_pos rfl] at h1
      cases h1
      omega
    · rw [zz_tg_new, if_neg hz] at h1
      exact hvv _ (hT.2 a' ty n' j h1 h2)
theorem zz_tyH_newA {h : zz_H} {t n a : Nat} (hT : zz_tyH h) (hn : zz_tg h a = none) (h9 : t ≠ 93) (h8 : 90 ≤ t) : zz_tyH (zz_newA h t n a) := by
  have hvv : ∀ v, zz_ty h v → zz_ty (zz_newA h t n a) v := fun v hv => zz_ty_le (zz_le_newA hn h9).1 hv
  refine ⟨fun a' ci' n' k' ty h1 h2 h3 => ?_, fun a' ty n' j h1 h2 => ?_⟩
  · rw [zz_fR_newA]
    by_cases hz : a' = a
    · subst hz
      rw [zz_tg_newA, if_pos rfl] at h1
      cases h1
      omega
    · rw [zz_tg_newA, if_neg hz] at h1
      exact hvv _ (hT.1 a' ci' n' k' ty h1 h2 h3)
  · rw [zz_aR_newA]
    by_cases hz : a' = a
    · rw [if_pos hz]
      exact zz_ty_none _ _
    · rw [if_neg hz]
      rw [zz_tg_newA, if_neg hz] at h1
      exact hvv _ (hT.2 a' ty n' j h1 h2)
section ZN
variable {p : Program} {l : Launch} {e : Env} {R : Room} {s : State} {m : MethodId} {args : Array Value} {below : List Frame} {meth : Method} {c : Code} {Q : State → Prop}
variable {D : va_G} {DA : Nat → ClassId} {A : Nat → Prop} {h0 h : zz_H} {nL kc ns pc q : Nat} {cc : ByteArray} {own : String} {L : List (Option zz_V)} {S : List zz_V}
theorem zz_newO (C : zz_C p s m args c cc nL own D DA) {idx ci N : Nat} {CN : String} {T : u_T} (hcl : zz_cl[ci]? = some (CN, T, N)) (hw : Cond.classLink own idx CN ∈ zz_all) (hi : Cond.instantiable CN N ∈ zz_all) (hini : Cond.initialized CN ∈ zz_all) (hd : decode cc pc = .ok (.new idx, 3)) (hq : pc + 3 = q) (hc : kc + 1 ≤ R.cells) (hs : ns + N ≤ R.slots)
    (kk : ∀ a, zz_tg h a = none → (zz_Z p l e R s m args below meth c Q D DA A h0 nL q L (zz_r ci (some a) :: S) (zz_new h ci a) (kc + 1) (ns + N))) : (zz_Z p l e R s m args below meth c Q D DA A h0 nL pc L S h kc ns) := by
  subst hq
  obtain ⟨k1, k2, k3, k4, k5, k6, k7⟩ := zz_okC ci CN T N hcl
  intro H locs ls hW hS hle hTL hTS hL
  refine va_new (fs := zz_fs0 ci) C.1.1 C.1.2.1 C.1.2.2.2.2 k5 (zz_fty ci) k3 C.1.2.2.2.1 (C.1.2.2.2.2 _ hw) (C.1.2.2.2.2 _ hi) (C.1.2.2.2.2 _ hini) C.2 (zz_toP hW) (zz_toD DA hS) hS.1 hS.2.1 hcl ?_ hc hs hd (fun a H1 hP1 hD1 hS1 => ?_)
  · intro j hj
    have k8 := k7 j hj
    have e1 : vp_V (zz_fs0 ci) j = (match zz_ft ci j with
      | none => Value.int 0
      | some _ => .null) := by
      unfold vp_V zz_fs0
      rw [List.getD_eq_getElem?_getD, List.getElem?_map, List.getElem?_range (by rw [k2]; exact hj)]
      rfl
    rw [e1]
    cases hf : zz_ft ci j with
    | none =>
      rw [hf] at k8
      rcases k8 with e2 | e2 <;> (rw [e2]; rfl)
    | some t =>
      rw [hf] at k8
      rcases k8 with ⟨n, e2⟩ | ⟨n, e2⟩ <;> (rw [e2]; rfl)
  · have hn := zz_fresh hW hS hD1
    have hlen := zz_le_new (ci := ci) hn (by omega)
    obtain ⟨w1, w2⟩ := zz_backN (h' := zz_new h ci a) (t := (ci, 0)) hW hS hP1 hD1 hS1 (by
      rw [zz_cell_obj (h := zz_new h ci a) (n := 0) (by rw [zz_tg_new, if_pos rfl]) k1, zz_fs_new]) (fun b hb => zz_cell_of (by rw [zz_tg_new, if_neg hb]) (fun c' j => by rw [zz_fI_new, if_neg (fun z => hb z.2)]) (fun c' j => by rw [zz_fR_new, if_neg (fun z => hb z.2)]) rfl rfl rfl)
      (fun b => by rw [zz_tg_new]) (by show ci ≠ 93; omega) (fun b hb => rfl) (zz_tyH_new hW.2.2 hn k1)
    exact kk a hn H1 locs ls w1 w2 (zz_le_tr hle hlen) (zz_TL_le hlen.1 hTL) (zz_T_c (fun b hb => by cases hb; exact ⟨0, by rw [zz_tg_new, if_pos rfl]⟩) (zz_T_le hlen.1 hTS)) hL
/-- what the tables say of the class of an array -/
theorem zz_newP (C : zz_C p s m args c cc nL own D DA) {at9 : ArrayType} {ty : FieldType} {t N : Nat} {x : Int32} {a0 : vp_A} (t0 : Nat) (hat : (zz_ats DA)[t0]? = some (DA t, ty)) (hprim : ∀ cA, va_RA s cA ty = (s.vm.findClass ("[" ++ ty.toString) = some cA)) (hty : newarray.typeOf at9 = ty) (hw : Cond.arrayClass ty ∈ zz_all) (ha : ∀ cA : ClassId, vp_cell cA a0 = arrV cA N (fun _ => defaultValue ty)) (hx : x = nI N) (hN : N < 2 ^ 31) (hby : N * componentBytes ty ≤ 536870912)
    (h9 : t ≠ 93) (h8 : 90 ≤ t) (hcell : ∀ h' a, zz_tg h' a = some (t, N) → zz_aI h' a = (fun _ => 0) → zz_aL h' a = (fun _ => 0) → zz_cell DA h' a = some (.inl (DA t, a0))) (hd : decode cc pc = .ok (.newarray at9, 2)) (hq : pc + 2 = q) (hc : kc + 1 ≤ R.cells) (hs : ns + N ≤ R.slots)
    (kk : ∀ a, zz_tg h a = none → (zz_Z p l e R s m args below meth c Q D DA A h0 nL q L (zz_r t (some a) :: S) (zz_newA h t N a) (kc + 1) (ns + N))) : (zz_Z p l e R s m args below meth c Q D DA A h0 nL pc L (zz_i x :: S) h kc ns) := by
  subst hq
  subst hx
  intro H locs ls hW hS hle hTL hTS hL
  refine va_newa C.1.1 C.1.2.1 (by rw [hty]; exact C.1.2.2.2.2 _ hw) hty C.2 (zz_toP hW) (zz_toD DA hS) hS.1 hS.2.1 ha (nI_pos hN) (nI_clamp hN) hby hc hs hd (fun a cA H1 hK1 hP1 hD1 hS1 => ?_)
  have hA1 : va_RA s cA ty := (hK1.2 (zz_ats DA).length (cA, ty) (by simp)).2
  have hA2 : va_RA s (DA t) ty := (C.2.2 t0 _ hat).2
  rw [hprim] at hA1 hA2
  have hcA : cA = DA t := Option.some.inj (hA1.symm.trans hA2)
  subst hcA
  have hn := zz_fresh hW hS hD1
  have hlen := zz_le_newA (ty := t) (n := N) hn h9
  obtain ⟨w1, w2⟩ := zz_backN (h' := zz_newA h t N a) (t := (t, N)) hW hS hP1 hD1 hS1 (hcell _ a (by rw [zz_tg_newA, if_pos rfl]) (by funext i; rw [zz_aI_newA, if_pos rfl]) (by funext i; rw [zz_aL_newA, if_pos rfl]))
    (fun b hb => zz_cell_of (by rw [zz_tg_newA, if_neg hb]) (fun c' j => rfl) (fun c' j => rfl) (by funext i; rw [zz_aI_newA, if_neg hb]) (by funext i; rw [zz_aR_newA, if_neg hb]) (by funext i; rw [zz_aL_newA, if_neg hb]))
    (fun b => by rw [zz_tg_newA]) h9 (fun b hb => by funext i; rw [zz_aI_newA, if_neg hb]) (zz_tyH_newA hW.2.2 hn h9 h8)
  exact kk a hn H1 locs ls w1 w2 (zz_le_tr hle hlen) (zz_TL_le hlen.1 hTL) (zz_T_c (fun b hb => by cases hb; exact ⟨N, by rw [zz_tg_newA, if_pos rfl]⟩) (zz_T_le hlen.1 (zz_T_t hTS))) hL
theorem zz_newI (C : zz_C p s m args c cc nL own D DA) {at9 : ArrayType} {N : Nat} {x : Int32} (hty : newarray.typeOf at9 = .int) (hw : Cond.arrayClass .int ∈ zz_all) (hx : x = nI N) (hN : N < 1000) (hd : decode cc pc = .ok (.newarray at9, 2)) (hq : pc + 2 = q) (hc : kc + 1 ≤ R.cells) (hs : ns + N ≤ R.slots)
    (kk : ∀ a, zz_tg h a = none → (zz_Z p l e R s m args below meth c Q D DA A h0 nL q L (zz_r 90 (some a) :: S) (zz_newA h 90 N a) (kc + 1) (ns + N))) : (zz_Z p l e R s m args below meth c Q D DA A h0 nL pc L (zz_i x :: S) h kc ns) :=
  zz_newP C (a0 := (N, .inl (fun _ => 0))) 0 rfl (fun _ => rfl) hty hw (fun _ => rfl) hx (by omega) (by show N * 4 ≤ _; omega) (by decide) (by decide) (fun h' a h1 h2 h3 => by rw [zz_cell_int h1, h2]) hd hq hc hs kk
theorem zz_newB (C : zz_C p s m args c cc nL own D DA) {at9 : ArrayType} {N : Nat} {x : Int32} (hty : newarray.typeOf at9 = .boolean) (hw : Cond.arrayClass .boolean ∈ zz_all) (hx : x = nI N) (hN : N < 1000) (hd : decode cc pc = .ok (.newarray at9, 2)) (hq : pc + 2 = q) (hc : kc + 1 ≤ R.cells) (hs : ns + N ≤ R.slots)
    (kk : ∀ a, zz_tg h a = none → (zz_Z p l e R s m args below meth c Q D DA A h0 nL q L (zz_r 91 (some a) :: S) (zz_newA h 91 N a) (kc + 1) (ns + N))) : (zz_Z p l e R s m args below meth c Q D DA A h0 nL pc L (zz_i x :: S) h kc ns) :=
  zz_newP C (a0 := (N, .inl (fun _ => 0))) 1 rfl (fun _ => rfl) hty hw (fun _ => rfl) hx (by omega) (by show N * 1 ≤ _; omega) (by decide) (by decide) (fun h' a h1 h2 h3 => by rw [zz_cell_boo h1, h2]) hd hq hc hs kk
theorem zz_newL (C : zz_C p s m args c cc nL own D DA) {at9 : ArrayType} {N : Nat} {x : Int32} (hty : newarray.typeOf at9 = .long) (hw : Cond.arrayClass .long ∈ zz_all) (hx : x = nI N) (hN : N < 1000) (hd : decode cc pc = .ok (.newarray at9, 2)) (hq : pc + 2 = q) (hc : kc + 1 ≤ R.cells) (hs : ns + N ≤ R.slots)
    (kk : ∀ a, zz_tg h a = none → (zz_Z p l e R s m args below meth c Q D DA A h0 nL q L (zz_r 92 (some a) :: S) (zz_newA h 92 N a) (kc + 1) (ns + N))) : (zz_Z p l e R s m args below meth c Q D DA A h0 nL pc L (zz_i x :: S) h kc ns) :=
  zz_newP C (a0 := (N, .inr (.inl (fun _ => 0)))) 2 rfl (fun _ => rfl) hty hw (fun _ => rfl) hx (by omega) (by show N * 8 ≤ _; omega) (by decide) (by decide) (fun h' a h1 h2 h3 => by rw [zz_cell_lon h1, h3]) hd hq hc hs kk
theorem zz_newR (C : zz_C p s m args c cc nL own D DA) {idx ci N : Nat} {CN : String} {x : Int32} (t0 : Nat) (hat : (zz_ats DA)[t0]? = some (DA (100 + ci), .object CN)) (hw : Cond.classLink own idx CN ∈ zz_all) (hw2 : Cond.arrayOver (.object CN) ∈ zz_all) (hx : x = nI N) (hN : N < 1000) (hd : decode cc pc = .ok (.anewarray idx, 3)) (hq : pc + 3 = q) (hc : kc + 1 ≤ R.cells) (hs : ns + N ≤ R.slots)
    (kk : ∀ a, zz_tg h a = none → (zz_Z p l e R s m args below meth c Q D DA A h0 nL q L (zz_r (100 + ci) (some a) :: S) (zz_newA h (100 + ci) N a) (kc + 1) (ns + N))) : (zz_Z p l e R s m args below meth c Q D DA A h0 nL pc L (zz_i x :: S) h kc ns) := by
  subst hq
  subst hx
  intro H locs ls hW hS hle hTL hTS hL
  refine va_newq C.1.1 C.1.2.1 C.1.2.2.2.1 (C.1.2.2.2.2 _ hw) (va_AO.of (C.1.2.2.2.2 _ hw2)) C.2 (zz_toP hW) (zz_toD DA hS) hS.1 hS.2.1 (nI_pos (by omega)) (nI_clamp (by omega)) (by omega) hc hs hd (fun a cA H1 hK1 hP1 hD1 hS1 => ?_)
  have hA1 : va_RA s cA (.object CN) := (hK1.2 (zz_ats DA).length (cA, .object CN) (by simp)).2
  have hA2 : va_RA s (DA (100 + ci)) (.object CN) := (C.2.2 t0 _ hat).2
  obtain ⟨_, _, _, _, _, e1⟩ := hA1
  obtain ⟨_, _, _, _, _, e2⟩ := hA2
  have hcA : cA = DA (100 + ci) := Option.some.inj (e1.symm.trans e2)
  subst hcA
  have hn := zz_fresh hW hS hD1
  have hlen := zz_le_newA (ty := 100 + ci) (n := N) hn (by omega)
  obtain ⟨w1, w2⟩ := zz_backN (h' := zz_newA h (100 + ci) N a) (t := (100 + ci, N)) hW hS hP1 hD1 hS1 (by
      rw [zz_cell_ref (h := zz_newA h (100 + ci) N a) (n := N) (ty := 100 + ci) (by rw [zz_tg_newA, if_pos rfl]) (by omega)]
      have : zz_aR (zz_newA h (100 + ci) N a) a = (fun _ => none) := by funext i; rw [zz_aR_newA, if_pos rfl]
      rw [this])
    (fun b hb => zz_cell_of (by rw [zz_tg_newA, if_neg hb]) (fun c' j => rfl) (fun c' j => rfl) (by funext i; rw [zz_aI_newA, if_neg hb]) (by funext i; rw [zz_aR_newA, if_neg hb]) (by funext i; rw [zz_aL_newA, if_neg hb]))
    (fun b => by rw [zz_tg_newA]) (by show 100 + ci ≠ 93; omega) (fun b hb => by funext i; rw [zz_aI_newA, if_neg hb]) (zz_tyH_newA hW.2.2 hn (by omega) (by omega))
  exact kk a hn H1 locs ls w1 w2 (zz_le_tr hle hlen) (zz_TL_le hlen.1 hTL) (zz_T_c (fun b hb => by cases hb; exact ⟨N, by rw [zz_tg_newA, if_pos rfl]⟩) (zz_T_le hlen.1 (zz_T_t hTS))) hL
theorem zz_objInit (C : zz_C p s m args c cc nL own D DA) {idx ci a : Nat} {o : Option Nat} (hw1 : Cond.methodLink own idx objectInit ∈ zz_all) (hw2 : Cond.instanceMethod objectInit ∈ zz_all) (hw3 : Cond.code objectInit ⟨#[0xb1]⟩ 1 none ∈ zz_all) (hd : decode cc pc = .ok (.invokespecial idx, 3)) (hq : pc + 3 = q) (ho : o = some a) (hf : 1 ≤ R.frames) (hl : 12 ≤ R.locals) (kk : (zz_Z p l e R s m args below meth c Q D DA A h0 nL q L ([]) h kc ns)) : (zz_Z p l e R s m args below meth c Q D DA A h0 nL pc L ([zz_r ci o]) h kc ns) := by
  subst hq
  subst ho
  intro H locs ls hW hS hle hTL hTS hL
  refine W.objInit C.1.1 C.1.2.1 C.1.2.2.2.1 (C.1.2.2.2.2 _ hw1) (C.1.2.2.2.2 _ hw2) (C.1.2.2.2.2 _ hw3) rfl (by rw [C.1.2.2.1]; exact hL.1) rfl hd hf (by show 2 * 0 + 0 + 12 ≤ _; omega) ?_
  exact kk H locs ls hW hS hle hTL (zz_T_t hTS) hL
theorem zz_copyI (C : zz_C p s m args c cc nL own D DA) {idx a0 a n0 n1 k : Nat} {o0 o1 : Option Nat} {x : Int32} (hw1 : Cond.methodLink own idx arraycopyName ∈ zz_all) (hw2 : Cond.native arraycopyName ∈ zz_all) (hw3 : Cond.static arraycopyName ∈ zz_all) (hw4 : Cond.initialized "java/lang/System" ∈ zz_all) (hd : decode cc pc = .ok (.invokestatic idx, 3)) (hq : pc + 3 = q) (ho0 : o0 = some a0) (ho1 : o1 = some a) (ht0 : zz_tg h a0 = some (90, n0)) (ht1 : zz_tg h a = some (90, n1)) (hx : x = nI k) (hk0 : k ≤ n0) (hk1 : k ≤ n1) (hk : k < 2 ^ 31)
    (hf : 1 ≤ R.frames) (hl : nativeFrameWords "java/lang/System" "arraycopy" 5 + 11 ≤ R.locals) (kk : (zz_Z p l e R s m args below meth c Q D DA A h0 nL q L ([]) (zz_uI h a (fun j => if j < k then zz_aI h a0 j else zz_aI h a j)) kc ns)) : (zz_Z p l e R s m args below meth c Q D DA A h0 nL pc L ([zz_i x, zz_i 0, zz_r 90 o1, zz_i 0, zz_r 90 o0]) h kc ns) := by
  subst hq
  subst ho0
  subst ho1
  subst hx
  intro H locs ls hW hS hle hTL hTS hL
  obtain ⟨q0, hq0⟩ := zz_pos hW (zz_cell_int (DA := DA) ht0)
  obtain ⟨q1, hq1⟩ := zz_pos hW (zz_cell_int (DA := DA) ht1)
  have e0 : (0 : Int32).toNatClampNeg = 0 := by decide +kernel
  have ek : (nI k).toNatClampNeg = k := nI_clamp hk
  refine va_copyi C.1.1 C.1.2.1 (by rw [C.1.2.2.1]; exact hL.1.symm) C.1.2.2.2.1 (C.1.2.2.2.2 _ hw1) (C.1.2.2.2.2 _ hw2) (C.1.2.2.2.2 _ hw3) (C.1.2.2.2.2 _ hw4) C.2 (zz_toP hW) (zz_toD DA hS) hS.1 q0 q1 0 0 hq0 hq1 rfl rfl rfl (by decide +kernel) (by decide +kernel) (nI_pos hk) (by rw [e0, ek]; omega) (by rw [e0, ek]; omega) (fun _ _ => rfl) hf (by show 0 + _ ≤ _; omega) hd (fun H1 locs1 hP1 _ hS1 => ?_)
  rw [e0, ek] at hP1
  obtain ⟨w1, w2⟩ := zz_back (h' := zz_uI h a (fun j => if j < k then zz_aI h a0 j else zz_aI h a j)) hW hS hq1 hP1 hS1 (by
    rw [zz_cell_int (h := zz_uI h a _) (n := n1) ht1]
    have : zz_aI (zz_uI h a (fun j => if j < k then zz_aI h a0 j else zz_aI h a j)) a = va_cpy (zz_aI h a0) (zz_aI h a) 0 0 k := by
      funext i
      rw [zz_aI_uI, if_pos rfl]
      by_cases hi : i < k
      · rw [if_pos hi, pk_cpy_in (Nat.zero_le _) (by omega)]
        congr 1
        omega
      · rw [if_neg hi, pk_cpy_out (Or.inr (by omega))]
    rw [this]) (fun b hb => zz_cell_of rfl (fun _ _ => rfl) (fun _ _ => rfl) (by funext i; rw [zz_aI_uI, if_neg hb]) rfl rfl) rfl (fun b n' hb => by
      funext i
      rw [zz_aI_uI, if_neg]
      rintro rfl
      rw [ht1] at hb
      cases hb) (zz_tyH_of hW.2.2 rfl rfl rfl)
  exact kk H1 locs1 ls w1 w2 hle hTL (fun _ hz => by cases hz) hL
theorem zz_copyR (C : zz_C p s m args c cc nL own D DA) {idx ci a0 a n0 n1 k N : Nat} {o0 o1 : Option Nat} {x : Int32} {CN : String} {T : u_T} (t0 : Nat) (hcl : zz_cl[ci]? = some (CN, T, N)) (hat : (zz_ats DA)[t0]? = some (DA (100 + ci), .object CN)) (hw1 : Cond.methodLink own idx arraycopyName ∈ zz_all) (hw2 : Cond.native arraycopyName ∈ zz_all) (hw3 : Cond.static arraycopyName ∈ zz_all) (hw4 : Cond.initialized "java/lang/System" ∈ zz_all) (hd : decode cc pc = .ok (.invokestatic idx, 3)) (hq : pc + 3 = q) (ho0 : o0 = some a0) (ho1 : o1 = some a) (ht0 : zz_tg h a0 = some (100 + ci, n0)) (ht1 : zz_tg h a = some (100 + ci, n1)) (hx : x = nI k) (hk0 : k ≤ n0) (hk1 : k ≤ n1) (hk : k < 2 ^ 31)
    (hf : 1 ≤ R.frames) (hl : nativeFrameWords "java/lang/System" "arraycopy" 5 + 11 ≤ R.locals) (kk : (zz_Z p l e R s m args below meth c Q D DA A h0 nL q L ([]) (zz_uR h a (fun j => if j < k then zz_aR h a0 j else zz_aR h a j)) kc ns)) : (zz_Z p l e R s m args below meth c Q D DA A h0 nL pc L ([zz_i x, zz_i 0, zz_r (100 + ci) o1, zz_i 0, zz_r (100 + ci) o0]) h kc ns) := by
  subst hq
  subst ho0
  subst ho1
  subst hx
  intro H locs ls hW hS hle hTL hTS hL
  have k1 := (zz_okC ci CN T N hcl).1
  have hty : 100 ≤ 100 + ci := by omega
  obtain ⟨q0, hq0⟩ := zz_pos hW (zz_cell_ref (DA := DA) ht0 hty)
  obtain ⟨q1, hq1⟩ := zz_pos hW (zz_cell_ref (DA := DA) ht1 hty)
  have e0 : (0 : Int32).toNatClampNeg = 0 := by decide +kernel
  have ek : (nI k).toNatClampNeg = k := nI_clamp hk
  have hkn := (C.2.1 ci _ hcl).2
  have hty8 : zz_tyH (zz_uR h a (fun j => if j < k then zz_aR h a0 j else zz_aR h a j)) := by
    have hvv : ∀ v, zz_ty h v → zz_ty (zz_uR h a (fun j => if j < k then zz_aR h a0 j else zz_aR h a j)) v := fun v hv => zz_ty_le (fun a t q => q) hv
    refine ⟨fun a' ci' n' k' ty' g1 g2 g3 => hvv _ (hW.2.2.1 a' ci' n' k' ty' g1 g2 g3), fun a' ty' n' j' g1 g2 => ?_⟩
    have g8 : zz_tg h a' = some (ty', n') := g1
    clear g1
    rw [zz_aR_uR]
    by_cases hz : a' = a
    · subst hz
      rw [if_pos rfl]
      rw [ht1] at g8
      cases g8
      by_cases hj : j' < k
      · rw [if_pos hj]
        exact hvv _ (hW.2.2.2 a0 _ n0 j' ht0 g2)
      · rw [if_neg hj]
        exact hvv _ (hW.2.2.2 a' _ n1 j' ht1 g2)
    · rw [if_neg hz]
      exact hvv _ (hW.2.2.2 a' ty' n' j' g8 g2)
  refine va_copyq (C := CN) C.1.1 C.1.2.1 (by rw [C.1.2.2.1]; exact hL.1.symm) C.1.2.2.2.1 (C.1.2.2.2.2 _ hw1) (C.1.2.2.2.2 _ hw2) (C.1.2.2.2.2 _ hw3) (C.1.2.2.2.2 _ hw4) C.2 (zz_toP hW) (zz_toD DA hS) hS.1 q0 q1 t0 t0 hq0 hq1 hat hat (by decide +kernel) (by decide +kernel) (nI_pos hk) (by rw [e0, ek]; omega) (by rw [e0, ek]; omega) (fun i hi y hy => ?_) (fun comp c9 g1 g2 => ?_) hf (by show 0 + _ ≤ _; omega) hd (fun H1 locs1 hP1 _ hS1 => ?_)
  · obtain ⟨ny, hty9⟩ := hW.2.2.2 a0 (100 + ci) n0 _ ht0 hty y hy
    have hty9 : zz_tg h y = some (ci, ny) := by
      have e9 : 100 + ci - 100 = ci := by omega
      rw [e9] at hty9
      exact hty9
    exact va_recv (q0 := 0) C.2 (zz_at1 hW (zz_cell_obj hty9 k1)) hcl rfl
  · have : c9 = comp := Option.some.inj (g2.symm.trans g1)
    subst this
    have e9 : c9 = D.1 ci := Option.some.inj (g2.symm.trans hkn.1)
    subst e9
    exact va_assign hkn
  · rw [e0, ek] at hP1
    obtain ⟨w1, w2⟩ := zz_back (h' := zz_uR h a (fun j => if j < k then zz_aR h a0 j else zz_aR h a j)) hW hS hq1 hP1 hS1 (by
      rw [zz_cell_ref (h := zz_uR h a _) (n := n1) (ty := 100 + ci) ht1 hty]
      have : zz_aR (zz_uR h a (fun j => if j < k then zz_aR h a0 j else zz_aR h a j)) a = va_cpy (zz_aR h a0) (zz_aR h a) 0 0 k := by
        funext i
        rw [zz_aR_uR, if_pos rfl]
        by_cases hi : i < k
        · rw [if_pos hi, pk_cpy_in (Nat.zero_le _) (by omega)]
          congr 1
          omega
        · rw [if_neg hi, pk_cpy_out (Or.inr (by omega))]
      rw [this]) (fun b hb => zz_cell_of rfl (fun _ _ => rfl) (fun _ _ => rfl) rfl (by funext i; rw [zz_aR_uR, if_neg hb]) rfl) rfl (fun b n' hb => rfl) hty8
    exact kk H1 locs1 ls w1 w2 hle hTL (fun _ hz => by cases hz) hL
end ZN
end
section
/-! contracts as transformers, returns, calls, throws -/
def zz_A (h : zz_H) (sz : Nat) : Nat → Prop := fun q => (∃ ty n, zz_tg h q = some (ty, n) ∧ ty ≠ 93) ∨ sz ≤ q
def zz_E (D : va_G) (DA : Nat → ClassId) (A : Nat → Prop) (h0 h' : zz_H) (st t : State) : Prop := zz_W D DA t h' t.heap ∧ zz_le h0 h' ∧ va_F A st t ∧ ∀ a ty n, zz_tg h' a = some (ty, n) → ty ≠ 93 → A a
def zz_out (D : va_G) (DA : Nat → ClassId) (A : Nat → Prop) (h0 : zz_H) (post : Option zz_V → zz_H → Prop) : Array Value → State → Outcome → State → Prop := fun _ st o t => ∃ (r : Option zz_V) (h' : zz_H), post r h' ∧ o = .returned (r.map zz_v) ∧ (∀ v, r = some v → zz_ty h' v) ∧ zz_E D DA A h0 h' st t
def zz_Pc (D : va_G) (DA : Nat → ClassId) (h : zz_H) (sz : Nat) (as : List zz_V) : Array Value → State → Prop := va_Pc (as.map zz_v) (fun U => U.heap.size = sz ∧ zz_W D DA U h U.heap ∧ zz_K D DA U ∧ zz_T h as)
abbrev zz_Tr : Type := List zz_V → zz_H → (Option zz_V → zz_H → Prop) → Prop
def zz_Met (l : Launch) (y : MethodName) (ws : List Cond) (rm : Room) (T : zz_Tr) : Prop :=
  ∀ (D : va_G) (DA : Nat → ClassId) (h : zz_H) (sz : Nat) (as : List zz_V) (post : Option zz_V → zz_H → Prop), T as h post →
    Met l y ws rm (zz_Pc D DA h sz as) (zz_out D DA (zz_A h sz) h post) rm.cells rm.slots (zz_A h sz)
theorem zz_W_moved {D : va_G} {DA : Nat → ClassId} {u U : State} {h : zz_H} {H : Heap} (hvm : u.vm.Alike U.vm) (hW : zz_W D DA u h H) : zz_W D DA U h H := ⟨hW.1, fun a n ht => (hW.2.1 a n ht).moved hvm, hW.2.2⟩
theorem zz_blind {D : va_G} {DA : Nat → ClassId} {h : zz_H} {sz : Nat} {as : List zz_V} : FrameBlind (zz_Pc D DA h sz as) := by
  intro a U g mk hq
  obtain ⟨q0, q1, q2, q3, q4⟩ := hq
  exact ⟨q0, q1, zz_W_moved (u := U) (U := U.calling g mk a) (Vm.Alike.refl U.vm) q2, va_K.moved (u := U) (U := U.calling g mk a) (Vm.Alike.refl U.vm) q3, q4⟩
/-- a walk that ends so ends well -/
def zz_End (Q : State → Prop) (below : List Frame) (args : Array Value) (s : State) (D : va_G) (DA : Nat → ClassId) (h : zz_H) (post : Option zz_V → zz_H → Prop) (mc ms : Nat) : Prop :=
  ∀ t, MQ below (zz_out D DA (zz_A h s.heap.size) h post) args s mc ms (zz_A h s.heap.size) t → Q t
theorem zz_entry {as : List zz_V} {n : Nat} (h1 : ∀ v ∈ as, zz_cat v = 1) (hn : as.length ≤ n) : zz_Lh ((lg_sl (as.map zz_v) ++ List.replicate (n - (lg_sl (as.map zz_v)).length) Slot.unset).toArray) n (as.map some ++ List.replicate (n - as.length) none) := by
  have hsl : ∀ as : List zz_V, (∀ v ∈ as, zz_cat v = 1) → (lg_sl (as.map zz_v)).length = as.length := by
    intro as
    induction as with
    | nil => intro _; rfl
    | cons v t ih =>
      intro hv
      have hc : ¬ (zz_v v).category = 2 := by rw [zz_cat_v, hv v List.mem_cons_self]; decide
      have := ih (fun w hw => hv w (List.mem_cons_of_mem _ hw))
      simp only [lg_sl, List.map_cons, List.flatMap_cons, hc, if_false, List.length_append, List.length_cons, List.length_nil] at this ⊢
      omega
  have harg : ∀ (as : List zz_V) (k : Nat), (∀ v ∈ as, zz_cat v = 1) → ∀ i v, as[i]? = some v → (k + i, zz_v v) ∈ lv_args k (as.map zz_v) := by
    intro as
    induction as with
    | nil => intro k _ i v hi; simp at hi
    | cons w t ih =>
      intro k hv i v hi
      have hc : ¬ (zz_v w).category = 2 := by rw [zz_cat_v, hv w List.mem_cons_self]; decide
      show _ ∈ (k, zz_v w) :: lv_args (if (zz_v w).category = 2 then k + 2 else k + 1) (t.map zz_v)
      rw [if_neg hc]
      cases i with
      | zero =>
        have : w = v := by simpa using hi
        subst this
        exact List.mem_cons_self
      | succ i =>
        have := ih (k + 1) (fun x hx => hv x (List.mem_cons_of_mem _ hx)) i v (by simpa using hi)
        rw [show k + 1 + i = k + (i + 1) by omega] at this
        exact List.mem_cons_of_mem _ this
  have hl := lv_entry (as.map zz_v) (n := n) (by rw [hsl as h1]; exact hn)
  refine ⟨hl.1, hl.2.1, fun i v hi => ?_⟩
  have hi' : as[i]? = some v := by
    by_cases hil : i < as.length
    · rw [List.getElem?_append_left (by simpa using hil), List.getElem?_map] at hi
      obtain ⟨w, hw, e⟩ := Option.map_eq_some_iff.mp hi
      cases e
      exact hw
    · rw [List.getElem?_append_right (by simpa using hil)] at hi
      have := List.mem_of_getElem? hi
      rw [List.mem_replicate] at this
      cases this.2
  have := harg as 0 h1 i v hi'
  rw [Nat.zero_add] at this
  exact hl.2.2 (i, zz_v v) this
theorem zz_S0 {D : va_G} {DA : Nat → ClassId} {h : zz_H} {s : State} (hW : zz_W D DA s h s.heap) : zz_S (zz_A h s.heap.size) s.heap h s.heap [] := by
  have hlt : ∀ a n, zz_tg h a = some (93, n) → a < s.heap.size := fun a n ht => by
    obtain ⟨scr, h1, -⟩ := hW.2.1 a n ht
    exact (Array.getElem?_eq_some_iff.mp h1).1
  refine ⟨va_S.rf, fun q hq => Or.inr hq, fun a ty n ht h9 => Or.inl ⟨ty, n, ht, h9⟩, fun a n ht => ⟨hlt a n ht, ?_⟩⟩
  rintro (⟨ty, n', ht', h9⟩ | hge)
  · rw [ht] at ht'
    cases ht'
    exact h9 rfl
  · have := hlt a n ht
    omega
theorem zz_TL0 {h : zz_H} {as : List zz_V} {k : Nat} (hTs : zz_T h as) : zz_TL h (as.map some ++ List.replicate k none) := by
  intro i v hi
  by_cases hil : i < as.length
  · rw [List.getElem?_append_left (by simpa using hil), List.getElem?_map] at hi
    obtain ⟨w, hw, e⟩ := Option.map_eq_some_iff.mp hi
    cases e
    exact hTs _ (List.mem_of_getElem? hw)
  · rw [List.getElem?_append_right (by simpa using hil)] at hi
    have := List.mem_of_getElem? hi
    rw [List.mem_replicate] at this
    cases this.2
/-- a method's contract out of its walk -/
theorem zz_ofZ {l : Launch} {y : MethodName} {rm : Room} {T : zz_Tr} {cc : ByteArray} {maxL : Nat} {ret : Option FieldType} (hy : plainName y.cls = true) (hfit : ∀ as h post, T as h post → (∀ v ∈ as, zz_cat v = 1) ∧ as.length ≤ maxL)
    (body : ∀ (D : va_G) (DA : Nat → ClassId) (h : zz_H) (as : List zz_V) (post : Option zz_V → zz_H → Prop), T as h post →
      ∀ (p : Program) (e : Env) (s : State) (m : MethodId) (args : Array Value) (below : List Frame) (meth : Method) (c : Code) (Q : State → Prop), zz_C p s m args c cc maxL y.cls D DA → meth.sig.returnType = ret → meth.locks = false → meth.name = y.name → zz_End Q below args s D DA h post rm.cells rm.slots →
        zz_Z p l e rm s m args below meth c Q D DA (zz_A h s.heap.size) h maxL 0 (as.map some ++ List.replicate (maxL - as.length) none) [] h 0 0) :
    zz_Met l y (Cond.code y cc maxL ret :: zz_all) rm T := by
  intro D DA h sz as post hT
  obtain ⟨hf1, hf2⟩ := hfit as h post hT
  refine Met.ofW (cc := cc) (maxL := maxL) (ret := ret) hy rfl ?_
  intro p e s m args below meth c s₁ B hml hv
  obtain ⟨rfl, hsz, hW, hK, hTs⟩ := hv
  subst hsz
  have hts := atoms_spec (ws := Cond.code y cc maxL ret :: zz_all) B.pre
  have hC : zz_C p s m (as.map zz_v).toArray c cc maxL y.cls D DA := ⟨⟨B.exec, B.bytes, hml, findClass_of_methodNamed B.named, fun w hw => hts w (List.mem_cons_of_mem _ hw)⟩, hK⟩
  have hZ := body D DA h as post hT p e s m _ below meth c _ hC B.returns B.notSynchronized (name_of_methodNamed B.named B.method).1 (fun t ht => ht)
  rw [lg_entry_eq]
  exact hZ s.heap [] _ hW (zz_S0 hW) (zz_le_rf h) (zz_TL0 hTs) (fun _ hz => by cases hz) (zz_entry hf1 hf2)
def zz_popA : Nat → List zz_V → List zz_V → Option (List zz_V × zz_V × List zz_V)
  | 0, acc, v :: S => some (acc, v, S)
  | n + 1, acc, v :: S => zz_popA n (v :: acc) S
  | _, _, [] => none
theorem zz_popA_of : ∀ (n : Nat) (acc st As S : List zz_V) (v : zz_V), zz_popA n acc st = some (As, v, S) → ∃ ys, st = ys ++ v :: S ∧ As = ys.reverse ++ acc := by
  intro n
  induction n with
  | zero =>
    intro acc st As S v hp
    cases st with
    | nil => cases hp
    | cons w t =>
      cases hp
      exact ⟨[], rfl, rfl⟩
  | succ n ih =>
    intro acc st As S v hp
    cases st with
    | nil => cases hp
    | cons w t =>
      obtain ⟨ys, h1, h2⟩ := ih (w :: acc) t As S v hp
      exact ⟨w :: ys, by rw [h1]; rfl, by rw [h2]; simp⟩
def zz_popS : Nat → List zz_V → List zz_V → Option (List zz_V × List zz_V)
  | 0, acc, S => some (acc, S)
  | n + 1, acc, v :: S => zz_popS n (v :: acc) S
  | _ + 1, _, [] => none
theorem zz_popS_of : ∀ (n : Nat) (acc st As S : List zz_V), zz_popS n acc st = some (As, S) → ∃ ys, st = ys ++ S ∧ As = ys.reverse ++ acc := by
  intro n
  induction n with
  | zero =>
    intro acc st As S hp
    cases hp
    exact ⟨[], rfl, rfl⟩
  | succ n ih =>
    intro acc st As S hp
    cases st with
    | nil => cases hp
    | cons w t =>
      obtain ⟨ys, h1, h2⟩ := ih (w :: acc) t As S hp
      exact ⟨w :: ys, by rw [h1]; rfl, by rw [h2]; simp⟩
theorem zz_weigh {S : List zz_V} (h : (S.map zz_cat).sum ≤ 8) : ((S.map zz_v).map fun v => v.category).sum ≤ 8 := by
  rw [List.map_map]
  have : ((fun v : Value => v.category) ∘ zz_v) = zz_cat := by
    funext v
    exact zz_cat_v v
  rw [this]
  exact h
section ZE
variable {p : Program} {l : Launch} {e : Env} {R : Room} {s : State} {m : MethodId} {args : Array Value} {below : List Frame} {meth : Method} {c : Code} {Q : State → Prop}
variable {D : va_G} {DA : Nat → ClassId} {A : Nat → Prop} {h0 h : zz_H} {nL kc ns pc q mc ms : Nat} {cc : ByteArray} {own : String} {L : List (Option zz_V)} {S : List zz_V} {post : Option zz_V → zz_H → Prop}
theorem zz_Wmono {Q' : State → Prop} {H : Heap} {locs : List Loc} {g : JFrame} (hQ : ∀ t, Q t → Q' t) (k : W p l e R s m args below meth c H locs kc ns Q g) : W p l e R s m args below meth c H locs kc ns Q' g := fun T hT X => by
  obtain ⟨t, a, b⟩ := k T hT X
  exact ⟨t, a, hQ t b⟩
theorem zz_end {H : Heap} {locs : List Loc} (hW : zz_W D DA s h H) (hS : zz_S A s.heap h H locs) (hle : zz_le h0 h) {t : State} (ht : t.heap = H) (hvm : s.vm.Alike t.vm) : zz_E D DA A h0 h s t :=
  ⟨zz_W_moved hvm (by rw [ht]; exact hW), hle, hS.1.F ht, hS.2.2.1⟩
theorem zz_iret (C : zz_C p s m args c cc nL own D DA) {x : Int32} (hr : meth.sig.returnType = some .int) (hlk : meth.locks = false) (hd : decode cc pc = .ok (.ireturn, 1)) (hQ : zz_End Q below args s D DA h0 post mc ms) (hc : kc ≤ mc) (hs : ns ≤ ms) (hp : post (some (zz_i x)) h) : zz_Z p l e R s m args below meth c Q D DA (zz_A h0 s.heap.size) h0 nL pc L [zz_i x] h kc ns := by
  intro H locs ls hW hS hle hTL hTS hL
  refine zz_Wmono hQ (W.widen hc hs ?_)
  exact W.iret C.1.1 C.1.2.1 hr (fun t ht hWm => ⟨some (zz_i x), h, hp, rfl, fun v hv => by cases hv; trivial, zz_end hW hS hle ht hWm.alike⟩) hS.1.2.2 hd hlk
theorem zz_zret (C : zz_C p s m args c cc nL own D DA) {x : Int32} (hr : meth.sig.returnType = some .boolean) (hlk : meth.locks = false) (hd : decode cc pc = .ok (.ireturn, 1)) (hx : x = 0 ∨ x = 1) (hQ : zz_End Q below args s D DA h0 post mc ms) (hc : kc ≤ mc) (hs : ns ≤ ms) (hp : post (some (zz_i x)) h) : zz_Z p l e R s m args below meth c Q D DA (zz_A h0 s.heap.size) h0 nL pc L [zz_i x] h kc ns := by
  intro H locs ls hW hS hle hTL hTS hL
  refine zz_Wmono hQ (W.widen hc hs ?_)
  exact W.zret C.1.1 C.1.2.1 hr (by rcases hx with rfl | rfl <;> decide +kernel) (fun t ht hWm => ⟨some (zz_i x), h, hp, rfl, fun v hv => by cases hv; trivial, zz_end hW hS hle ht hWm.alike⟩) hS.1.2.2 hd hlk
theorem zz_aret (C : zz_C p s m args c cc nL own D DA) {t : Nat} {o : Option Nat} {rt : FieldType} (hr : meth.sig.returnType = some rt) (hrt : (∃ n, rt = .object n) ∨ ∃ t, rt = .array t) (hlk : meth.locks = false) (hd : decode cc pc = .ok (.areturn, 1)) (hQ : zz_End Q below args s D DA h0 post mc ms) (hc : kc ≤ mc) (hs : ns ≤ ms) (hp : post (some (zz_r t o)) h) : zz_Z p l e R s m args below meth c Q D DA (zz_A h0 s.heap.size) h0 nL pc L [zz_r t o] h kc ns := by
  intro H locs ls hW hS hle hTL hTS hL
  refine zz_Wmono hQ (W.widen hc hs ?_)
  exact W.aret C.1.1 C.1.2.1 hr hrt (va_rf_or o) (fun t' ht hWm => ⟨some (zz_r t o), h, hp, rfl, fun v hv => by cases hv; exact zz_T_h hTS, zz_end hW hS hle ht hWm.alike⟩) hS.1.2.2 hd hlk
theorem zz_vret (C : zz_C p s m args c cc nL own D DA) (hr : meth.sig.returnType = none) (hlk : meth.locks = false) (hd : decode cc pc = .ok (.return_, 1)) (hQ : zz_End Q below args s D DA h0 post mc ms) (hc : kc ≤ mc) (hs : ns ≤ ms) (hp : post none h) : zz_Z p l e R s m args below meth c Q D DA (zz_A h0 s.heap.size) h0 nL pc L [] h kc ns := by
  intro H locs ls hW hS hle hTL hTS hL
  refine zz_Wmono hQ (W.widen hc hs ?_)
  exact W.vret C.1.1 C.1.2.1 hr (fun t ht hWm => ⟨none, h, hp, rfl, fun v hv => (by cases hv), zz_end hW hS hle ht hWm.alike⟩) hS.1.2.2 hd hlk
theorem zz_sub {H : Heap} {locs : List Loc} (hS : zz_S A s.heap h H locs) : ∀ q, zz_A h H.size q → A q := by
  rintro q (⟨ty, n, ht, h9⟩ | hq)
  · exact hS.2.2.1 q ty n ht h9
  · exact hS.2.1 q (Nat.le_trans hS.1.1 hq)
theorem zz_keep {H : Heap} {locs Lc : List Loc} {st₀ t T' : State} (hS : va_S A s.heap H locs) (h0' : st₀.heap = H) (e1 : T'.heap = t.heap) (hsub : ∀ q, zz_A h H.size q → A q) (hL : ∀ z ∈ Lc, zz_A h H.size z.base) (hF : va_F (zz_A h H.size) st₀ t) : va_S A s.heap T'.heap (locs ++ Lc) := by
  obtain ⟨f1, f2⟩ := hF
  rw [h0'] at f1 f2
  refine ⟨by rw [e1]; exact Nat.le_trans hS.1 f1, fun q g1 g2 => ?_, fun z hz => ?_⟩
  · rw [e1, f2 q (Nat.lt_of_lt_of_le g1 hS.1) (fun w => g2 (hsub q w))]
    exact hS.2.1 q g1 g2
  · rcases List.mem_append.mp hz with hz | hz
    · exact hS.2.2 z hz
    · exact hsub _ (hL z hz)
/-- the world behind a call -/
theorem zz_behind {h' : zz_H} {H : Heap} {locs Lc : List Loc} {st₀ t T' : State} (hS : zz_S A s.heap h H locs) (h0' : st₀.heap = H) (e1 : T'.heap = t.heap) (hvm : t.vm.Alike s.vm) (hL : ∀ z ∈ Lc, zz_A h H.size z.base) (hE : zz_E D DA (zz_A h H.size) h h' st₀ t) : zz_W D DA s h' T'.heap ∧ zz_S A s.heap h' T'.heap (locs ++ Lc) := by
  obtain ⟨g1, g3, g4, g5⟩ := hE
  have hsub := zz_sub hS
  exact ⟨by rw [e1]; exact zz_W_moved hvm g1, zz_keep hS.1 h0' e1 hsub hL g4, hS.2.1, fun a ty n ht h9 => hsub a (g5 a ty n ht h9), fun a n ht => hS.2.2.2 a n (g3.2 a n ht)⟩
theorem zz_call0 {a9 : Array Value} {H : Heap} {locs : List Loc} {ls : Array Slot} {st0 : List Value} (hS : zz_S A s.heap h H locs) (hle : zz_le h0 h) (hTL : zz_TL h L) (hTS : zz_T h S) (hL : zz_Lh ls nL L)
    (hr : va_Run p l e R s m args below meth c H locs kc ns mc ms (F0 m pc ls st0) (S.map zz_v) (zz_out D DA (zz_A h H.size) h post a9) (zz_A h H.size))
    (hp : ∀ r h', post r h' → zz_Z p l e R s m args below meth c Q D DA A h0 nL (pc + 3) L (r.toList ++ S) h' (kc + mc) (ns + ms)) : W p l e R s m args below meth c H locs kc ns Q (F0 m pc ls st0) := by
  intro T hT X
  obtain ⟨v, st₀, t, T', Lc, g0, X', hLc, e1, e2, ⟨r, h', hq, ho, hty, hE⟩, st⟩ := hr T hT X
  have hv : v = r.map zz_v := by cases ho; rfl
  subst hv
  obtain ⟨w1, w2⟩ := zz_behind hS g0 e1 (by rw [← e2]; exact X'.warmed.alike.symm) hLc hE
  have hl := hE.2.1
  have hTS' : zz_T h' (r.toList ++ S) := by
    intro w hw
    rcases List.mem_append.mp hw with hw | hw
    · exact hty w (Option.mem_toList.mp hw)
    · exact zz_ty_le hl.1 (hTS w hw)
  obtain ⟨t2, a1, b1⟩ := hp r h' hq T'.heap (locs ++ Lc) ls w1 w2 (zz_le_tr hle hl) (zz_TL_le hl.1 hTL) hTS' hL T' rfl X'
  refine ⟨t2, st t2 ?_, b1⟩
  have e9 : (r.toList ++ S).map zz_v = (r.map zz_v).toList ++ S.map zz_v := by cases r <;> rfl
  rw [e9] at a1
  exact a1
/-- the callee's start -/
theorem zz_start (C : zz_C p s m args c cc nL own D DA) {H : Heap} {as : List zz_V} (hW : zz_W D DA s h H) (hTs : zz_T h as) (U : State) (hU : U.heap = H) (hWm : s.WarmedH U.vm) : zz_Pc D DA h H.size as (as.map zz_v).toArray U :=
  ⟨rfl, by rw [hU], by rw [hU]; exact zz_W_moved hWm.alike hW, va_K.moved hWm.alike C.2, hTs⟩
theorem zz_pay {y : MethodName} {bytes : ByteArray} {maxL : Nat} {ret : Option FieldType} (hts : ∀ w ∈ zz_all, w.before args s = true) (hw : Cond.code y bytes maxL ret ∈ zz_all) : ∀ w ∈ Cond.code y bytes maxL ret :: zz_all, ∀ (a' : Array Value) (U : State), s.WarmedH U.vm → w.before a' U = true := fun w h a' U hW => by
  rcases List.mem_cons.mp h with rfl | h
  · exact zz_payW (zz_good _ hw) (hts _ hw) hW
  · exact zz_payW (zz_good _ h) (hts _ h) hW
theorem zz_sig {d : String} {n : Nat} (h8 : (parseMethodDescriptor d).map (fun d => d.parameters.length) = some n) : ∀ sig, parseMethodDescriptor d = some sig → n = sig.parameters.length := fun sig h => by
  rw [h] at h8
  exact (Option.some.inj h8).symm
/-- the words of a call -/
def zz_CV (own : String) (idx ci : Nat) (y : MethodName) (bytes : ByteArray) (maxL : Nat) (ret : Option FieldType) (n : Nat) : Prop :=
  (∃ T N, zz_cl[ci]? = some (y.cls, T, N)) ∧ Cond.methodLink own idx y ∈ zz_all ∧ Cond.instanceMethod y ∈ zz_all ∧ Cond.selects y.cls y y ∈ zz_all ∧ Cond.initialized y.cls ∈ zz_all ∧ Cond.code y bytes maxL ret ∈ zz_all ∧ y.cls ≠ "java/lang/invoke/MethodHandle" ∧ y.cls ≠ "java/lang/invoke/VarHandle" ∧ (parseMethodDescriptor y.desc).map (fun d => d.parameters.length) = some n
def zz_CS (own : String) (idx : Nat) (y : MethodName) (bytes : ByteArray) (maxL : Nat) (ret : Option FieldType) (n : Nat) : Prop :=
  Cond.methodLink own idx y ∈ zz_all ∧ Cond.static y ∈ zz_all ∧ Cond.initialized y.cls ∈ zz_all ∧ Cond.code y bytes maxL ret ∈ zz_all ∧ y.cls = own ∧ y.cls ≠ "java/lang/invoke/MethodHandle" ∧ y.cls ≠ "java/lang/invoke/VarHandle" ∧ (parseMethodDescriptor y.desc).map (fun d => d.parameters.length) = some n
def zz_CI (own : String) (idx ci : Nat) (y : MethodName) (bytes : ByteArray) (maxL : Nat) (n : Nat) : Prop :=
  (∃ T N, zz_cl[ci]? = some (y.cls, T, N)) ∧ Cond.methodLink own idx y ∈ zz_all ∧ Cond.instanceMethod y ∈ zz_all ∧ Cond.initialized y.cls ∈ zz_all ∧ Cond.code y bytes maxL none ∈ zz_all ∧ y.name = "<init>" ∧ y.cls ≠ "java/lang/invoke/MethodHandle" ∧ y.cls ≠ "java/lang/invoke/VarHandle" ∧ (parseMethodDescriptor y.desc).map (fun d => d.parameters.length) = some n
theorem zz_callV (C : zz_C p s m args c cc nL own D DA) {idx ci n b maxL : Nat} {y : MethodName} {bytes : ByteArray} {ret : Option FieldType} {rm : Room} {T : zz_Tr} {o : Option Nat} {st As : List zz_V} (hM : zz_Met l y (Cond.code y bytes maxL ret :: zz_all) rm T) (hw : zz_CV own idx ci y bytes maxL ret n) (hd : decode cc pc = .ok (.invokevirtual idx, 3)) (hq : pc + 3 = q) (hst : zz_popA n [] st = some (As, zz_r ci o, S)) (hnA : As.length = n) (ho : o = some b)
    (hR : rm.frames + 1 ≤ R.frames ∧ 8 + (maxL + 11) + rm.locals ≤ R.locals) (hf : kc + rm.cells ≤ R.cells ∧ ns + rm.slots ≤ R.slots) (h8 : (S.map zz_cat).sum ≤ 8)
    (hT : T (zz_r ci (some b) :: As) h (fun r h' => (zz_Z p l e R s m args below meth c Q D DA A h0 nL q L (r.toList ++ S) h' (kc + rm.cells) (ns + rm.slots)))) : (zz_Z p l e R s m args below meth c Q D DA A h0 nL pc L st h kc ns) := by
  subst hq
  subst ho
  obtain ⟨ys, hys, hAs⟩ := zz_popA_of n [] st As S _ hst
  rw [List.append_nil] at hAs
  obtain ⟨⟨T9, N9, hcl⟩, w1, w2, w3, w4, w5, w6, w7, w8⟩ := hw
  have k1 := (zz_okC ci y.cls T9 N9 hcl).1
  intro H locs ls hW hS hle hTL hTS hL
  have hTs : zz_T h (zz_r ci (some b) :: As) := by
    intro v hv
    apply hTS v
    rw [hys]
    rcases List.mem_cons.mp hv with rfl | hv
    · simp
    · rw [hAs] at hv
      simp [List.mem_reverse.mp hv]
  have hTS' : zz_T h S := fun v hv => hTS v (by rw [hys]; simp [hv])
  obtain ⟨nb, htb⟩ := (zz_T_h hTs) b rfl
  have htb : zz_tg h b = some (ci, nb) := htb
  have ht := C.1.2.2.2.2
  have cw : CallW R s args own y.cls idx y bytes maxL ret (Cond.code y bytes maxL ret :: zz_all) rm rm.cells rm.slots n := ⟨⟨rfl, rfl, hR.1, hR.2, zz_pay ht w5, List.mem_cons_self, ht _ w5, ht _ w4, ⟨w6, w7⟩, zz_sig w8, ht _ w1⟩, ht _ w2, ht _ w3⟩
  have hrun : va_Run p l e R s m args below meth c H locs kc ns rm.cells rm.slots (F0 m pc ls (st.map zz_v)) (S.map zz_v) _ (zz_A h H.size) := va_runV (g := F0 m pc ls (st.map zz_v)) (As := As.map zz_v) (b := b) (rest := S.map zz_v) C.1 (hM D DA h H.size (zz_r ci (some b) :: As) _ hT) cw
    ⟨zz_blind, va_recv (q0 := 0) C.2 (zz_at1 hW (zz_cell_obj (DA := DA) htb k1)) hcl rfl, fun U hU hWm => zz_start C hW hTs U hU hWm⟩ rfl (by simp [hnA]) hL.1 (by show st.map zz_v = _; rw [hys, hAs]; simp [zz_v, va_rf]) (lv_room (zz_weigh h8)) hd hf
  exact zz_call0 hS hle hTL hTS' hL hrun (fun r h' hq => hq)
theorem zz_callS (C : zz_C p s m args c cc nL own D DA) {idx n maxL : Nat} {y : MethodName} {bytes : ByteArray} {ret : Option FieldType} {rm : Room} {T : zz_Tr} {st As : List zz_V} (hM : zz_Met l y (Cond.code y bytes maxL ret :: zz_all) rm T) (hw : zz_CS own idx y bytes maxL ret n) (hd : decode cc pc = .ok (.invokestatic idx, 3)) (hq : pc + 3 = q) (hst : zz_popS n [] st = some (As, S)) (hnA : As.length = n)
    (hR : rm.frames + 1 ≤ R.frames ∧ 8 + (maxL + 11) + rm.locals ≤ R.locals) (hf : kc + rm.cells ≤ R.cells ∧ ns + rm.slots ≤ R.slots) (h8 : (S.map zz_cat).sum ≤ 8)
    (hT : T As h (fun r h' => (zz_Z p l e R s m args below meth c Q D DA A h0 nL q L (r.toList ++ S) h' (kc + rm.cells) (ns + rm.slots)))) : (zz_Z p l e R s m args below meth c Q D DA A h0 nL pc L st h kc ns) := by
  subst hq
  obtain ⟨ys, hys, hAs⟩ := zz_popS_of n [] st As S hst
  rw [List.append_nil] at hAs
  obtain ⟨w1, w2, w3, w4, w5, w6, w7, w8⟩ := hw
  intro H locs ls hW hS hle hTL hTS hL
  have hTs : zz_T h As := by
    intro v hv
    apply hTS v
    rw [hys]
    rw [hAs] at hv
    simp [List.mem_reverse.mp hv]
  have hTS' : zz_T h S := fun v hv => hTS v (by rw [hys]; simp [hv])
  have ht := C.1.2.2.2.2
  have cw : CallB R s args own idx y bytes maxL ret (Cond.code y bytes maxL ret :: zz_all) rm rm.cells rm.slots n ∧ (Cond.static y).before args s = true := ⟨⟨rfl, rfl, hR.1, hR.2, zz_pay ht w4, List.mem_cons_self, ht _ w4, ht _ w3, ⟨w6, w7⟩, zz_sig w8, ht _ w1⟩, ht _ w2⟩
  have hrun : va_Run p l e R s m args below meth c H locs kc ns rm.cells rm.slots (F0 m pc ls (st.map zz_v)) (S.map zz_v) _ (zz_A h H.size) := va_runS (g := F0 m pc ls (st.map zz_v)) (As := As.map zz_v) (rest := S.map zz_v) C.1 (hM D DA h H.size As _ hT) cw
    ⟨zz_blind, fun U hU hWm => zz_start C hW hTs U hU hWm⟩ rfl (by simp [hnA]) hL.1 (by show st.map zz_v = _; rw [hys, hAs]; simp) (lv_room (zz_weigh h8)) hd hf
  exact zz_call0 hS hle hTL hTS' hL hrun (fun r h' hq => hq)
theorem zz_callI (C : zz_C p s m args c cc nL own D DA) {idx ci n b maxL : Nat} {y : MethodName} {bytes : ByteArray} {rm : Room} {T : zz_Tr} {o : Option Nat} {st As : List zz_V} (hM : zz_Met l y (Cond.code y bytes maxL none :: zz_all) rm T) (hw : zz_CI own idx ci y bytes maxL n) (hd : decode cc pc = .ok (.invokespecial idx, 3)) (hq : pc + 3 = q) (hst : zz_popA n [] st = some (As, zz_r ci o, S)) (hnA : As.length = n) (ho : o = some b)
    (hR : rm.frames + 1 ≤ R.frames ∧ 8 + (maxL + 11) + rm.locals ≤ R.locals) (hf : kc + rm.cells ≤ R.cells ∧ ns + rm.slots ≤ R.slots) (h8 : (S.map zz_cat).sum ≤ 8)
    (hT : T (zz_r ci (some b) :: As) h (fun r h' => (zz_Z p l e R s m args below meth c Q D DA A h0 nL q L (r.toList ++ S) h' (kc + rm.cells) (ns + rm.slots)))) : (zz_Z p l e R s m args below meth c Q D DA A h0 nL pc L st h kc ns) := by
  subst hq
  subst ho
  obtain ⟨ys, hys, hAs⟩ := zz_popA_of n [] st As S _ hst
  rw [List.append_nil] at hAs
  obtain ⟨⟨T9, N9, hcl⟩, w1, w2, w4, w5, w9, w6, w7, w8⟩ := hw
  intro H locs ls hW hS hle hTL hTS hL
  have hTs : zz_T h (zz_r ci (some b) :: As) := by
    intro v hv
    apply hTS v
    rw [hys]
    rcases List.mem_cons.mp hv with rfl | hv
    · simp
    · rw [hAs] at hv
      simp [List.mem_reverse.mp hv]
  have hTS' : zz_T h S := fun v hv => hTS v (by rw [hys]; simp [hv])
  have ht := C.1.2.2.2.2
  have cw : CallB R s args own idx y bytes maxL none (Cond.code y bytes maxL none :: zz_all) rm rm.cells rm.slots n ∧ y.name = "<init>" ∧ (Cond.instanceMethod y).before args s = true := ⟨⟨rfl, rfl, hR.1, hR.2, zz_pay ht w5, List.mem_cons_self, ht _ w5, ht _ w4, ⟨w6, w7⟩, zz_sig w8, ht _ w1⟩, w9, ht _ w2⟩
  have hrun : va_Run p l e R s m args below meth c H locs kc ns rm.cells rm.slots (F0 m pc ls (st.map zz_v)) (S.map zz_v) _ (zz_A h H.size) := va_runI (g := F0 m pc ls (st.map zz_v)) (As := As.map zz_v) (b := b) (rest := S.map zz_v) C.1 (hM D DA h H.size (zz_r ci (some b) :: As) _ hT) cw
    ⟨zz_blind, fun U hU hWm => zz_start C hW hTs U hU hWm⟩ rfl (by simp [hnA]) hL.1 (by show st.map zz_v = _; rw [hys, hAs]; simp [zz_v, va_rf]) (lv_room (zz_weigh h8)) hd hf
  exact zz_call0 hS hle hTL hTS' hL hrun (fun r h' hq => hq)
def zz_CN (own : String) (idx ci : Nat) (y : MethodName) (host : String) (bytes : ByteArray) (maxL : Nat) (n : Nat) : Prop :=
  (∃ T N, zz_cl[ci]? = some (y.cls, T, N)) ∧ Cond.methodLinkNest own idx y host ∈ zz_all ∧ Cond.instanceMethod y ∈ zz_all ∧ Cond.initialized y.cls ∈ zz_all ∧ Cond.code y bytes maxL none ∈ zz_all ∧ y.name = "<init>" ∧ y.cls ≠ "java/lang/invoke/MethodHandle" ∧ y.cls ≠ "java/lang/invoke/VarHandle" ∧ (parseMethodDescriptor y.desc).map (fun d => d.parameters.length) = some n
theorem zz_callN (C : zz_C p s m args c cc nL own D DA) {idx ci n b maxL : Nat} {host : String} {y : MethodName} {bytes : ByteArray} {rm : Room} {T : zz_Tr} {o : Option Nat} {st As : List zz_V} (hM : zz_Met l y (Cond.code y bytes maxL none :: zz_all) rm T) (hw : zz_CN own idx ci y host bytes maxL n) (hd : decode cc pc = .ok (.invokespecial idx, 3)) (hq : pc + 3 = q) (hst : zz_popA n [] st = some (As, zz_r ci o, S)) (hnA : As.length = n) (ho : o = some b)
    (hR : rm.frames + 1 ≤ R.frames ∧ 8 + (maxL + 11) + rm.locals ≤ R.locals) (hf : kc + rm.cells ≤ R.cells ∧ ns + rm.slots ≤ R.slots) (h8 : (S.map zz_cat).sum ≤ 8)
    (hT : T (zz_r ci (some b) :: As) h (fun r h' => (zz_Z p l e R s m args below meth c Q D DA A h0 nL q L (r.toList ++ S) h' (kc + rm.cells) (ns + rm.slots)))) : (zz_Z p l e R s m args below meth c Q D DA A h0 nL pc L st h kc ns) := by
  subst hq
  subst ho
  obtain ⟨ys, hys, hAs⟩ := zz_popA_of n [] st As S _ hst
  rw [List.append_nil] at hAs
  obtain ⟨⟨T9, N9, hcl⟩, w1, w2, w4, w5, w9, w6, w7, w8⟩ := hw
  intro H locs ls hW hS hle hTL hTS hL
  have hTs : zz_T h (zz_r ci (some b) :: As) := by
    intro v hv
    apply hTS v
    rw [hys]
    rcases List.mem_cons.mp hv with rfl | hv
    · simp
    · rw [hAs] at hv
      simp [List.mem_reverse.mp hv]
  have hTS' : zz_T h S := fun v hv => hTS v (by rw [hys]; simp [hv])
  have ht := C.1.2.2.2.2
  have cw : va_CN R s args own idx y host bytes maxL none (Cond.code y bytes maxL none :: zz_all) rm rm.cells rm.slots n ∧ y.name = "<init>" ∧ (Cond.instanceMethod y).before args s = true := ⟨⟨⟨rfl, rfl, hR.1, hR.2, zz_pay ht w5, List.mem_cons_self⟩, ht _ w5, ht _ w4, ⟨w6, w7⟩, zz_sig w8, ht _ w1⟩, w9, ht _ w2⟩
  have hrun : va_Run p l e R s m args below meth c H locs kc ns rm.cells rm.slots (F0 m pc ls (st.map zz_v)) (S.map zz_v) _ (zz_A h H.size) := va_runIN (g := F0 m pc ls (st.map zz_v)) (As := As.map zz_v) (b := b) (rest := S.map zz_v) C.1 (hM D DA h H.size (zz_r ci (some b) :: As) _ hT) cw
    ⟨zz_blind, fun U hU hWm => zz_start C hW hTs U hU hWm⟩ rfl (by simp [hnA]) hL.1 (by show st.map zz_v = _; rw [hys, hAs]; simp [zz_v, va_rf]) (lv_room (zz_weigh h8)) hd hf
  exact zz_call0 hS hle hTL hTS' hL hrun (fun r h' hq => hq)
end ZE
end
section
abbrev c_T_init : ByteArray := prog_1_method_1_code
abbrev y_T_init : MethodName := ⟨"SegmentTrees", "<init>", "()V"⟩
/-- the words of T_init -/
abbrev w_T_init : List Cond := Cond.code y_T_init c_T_init 1 (none) :: zz_all
abbrev c_P_init : ByteArray := prog_4_method_1_code
abbrev y_P_init : MethodName := ⟨"SegmentTrees$Path", "<init>", "()V"⟩
/-- the words of P_init -/
abbrev w_P_init : List Cond := Cond.code y_P_init c_P_init 2 (none) :: zz_all
abbrev c_L_init : ByteArray := prog_5_method_1_code
abbrev y_L_init : MethodName := ⟨"SegmentTrees$PathLevel", "<init>", "()V"⟩
/-- the words of L_init -/
abbrev w_L_init : List Cond := Cond.code y_L_init c_L_init 1 (none) :: zz_all
abbrev c_O_init : ByteArray := prog_3_method_1_code
abbrev y_O_init : MethodName := ⟨"SegmentTrees$Order", "<init>", "()V"⟩
/-- the words of O_init -/
abbrev w_O_init : List Cond := Cond.code y_O_init c_O_init 1 (none) :: zz_all
abbrev c_Q_init : ByteArray := prog_6_method_1_code
abbrev y_Q_init : MethodName := ⟨"SegmentTrees$Position", "<init>", "()V"⟩
/-- the words of Q_init -/
abbrev w_Q_init : List Cond := Cond.code y_Q_init c_Q_init 1 (none) :: zz_all
abbrev c_T_clearPath : ByteArray := prog_1_method_5_code
abbrev y_T_clearPath : MethodName := ⟨"SegmentTrees", "clearPath", "()V"⟩
/-- the words of T_clearPath -/
abbrev w_T_clearPath : List Cond := Cond.code y_T_clearPath c_T_clearPath 1 (none) :: zz_all
abbrev c_P_forget : ByteArray := prog_4_method_2_code
abbrev y_P_forget : MethodName := ⟨"SegmentTrees$Path", "forget", "()V"⟩
/-- the words of P_forget -/
abbrev w_P_forget : List Cond := Cond.code y_P_forget c_P_forget 2 (none) :: zz_all
abbrev c_L_forget : ByteArray := prog_5_method_2_code
abbrev y_L_forget : MethodName := ⟨"SegmentTrees$PathLevel", "forget", "()V"⟩
/-- the words of L_forget -/
abbrev w_L_forget : List Cond := Cond.code y_L_forget c_L_forget 1 (none) :: zz_all
abbrev c_T_unique : ByteArray := prog_1_method_8_code
abbrev y_T_unique : MethodName := ⟨"SegmentTrees", "unique", "(Z)I"⟩
/-- the words of T_unique -/
abbrev w_T_unique : List Cond := Cond.code y_T_unique c_T_unique 2 (some (.int)) :: zz_all
abbrev c_O_firstThatMeets : ByteArray := prog_3_method_7_code
abbrev y_O_firstThatMeets : MethodName := ⟨"SegmentTrees$Order", "firstThatMeets", "(LSegmentTrees$Path;ILSegmentTrees$Segment;)LSegmentTrees$Segment;"⟩
/-- the words of O_firstThatMeets -/
abbrev w_O_firstThatMeets : List Cond := Cond.code y_O_firstThatMeets c_O_firstThatMeets 5 (some ((.object "SegmentTrees$Segment"))) :: zz_all
abbrev c_S_isBelow : ByteArray := prog_7_method_6_code
abbrev y_S_isBelow : MethodName := ⟨"SegmentTrees$Segment", "isBelow", "(LSegmentTrees$Segment;)Z"⟩
/-- the words of S_isBelow -/
abbrev w_S_isBelow : List Cond := Cond.code y_S_isBelow c_S_isBelow 2 (some (.boolean)) :: zz_all
abbrev c_S_isInTreeOf : ByteArray := prog_7_method_5_code
abbrev y_S_isInTreeOf : MethodName := ⟨"SegmentTrees$Segment", "isInTreeOf", "(LSegmentTrees$Segment;)Z"⟩
/-- the words of S_isInTreeOf -/
abbrev w_S_isInTreeOf : List Cond := Cond.code y_S_isInTreeOf c_S_isInTreeOf 2 (some (.boolean)) :: zz_all
abbrev c_S_atLevel : ByteArray := prog_7_method_4_code
abbrev y_S_atLevel : MethodName := ⟨"SegmentTrees$Segment", "atLevel", "(I)LSegmentTrees$Segment;"⟩
/-- the words of S_atLevel -/
abbrev w_S_atLevel : List Cond := Cond.code y_S_atLevel c_S_atLevel 4 (some ((.object "SegmentTrees$Segment"))) :: zz_all
abbrev c_P_isMetBy : ByteArray := prog_4_method_5_code
abbrev y_P_isMetBy : MethodName := ⟨"SegmentTrees$Path", "isMetBy", "(LSegmentTrees$Segment;)Z"⟩
/-- the words of P_isMetBy -/
abbrev w_P_isMetBy : List Cond := Cond.code y_P_isMetBy c_P_isMetBy 3 (some (.boolean)) :: zz_all
abbrev c_P_lowestStated : ByteArray := prog_4_method_7_code
abbrev y_P_lowestStated : MethodName := ⟨"SegmentTrees$Path", "lowestStated", "()I"⟩
/-- the words of P_lowestStated -/
abbrev w_P_lowestStated : List Cond := Cond.code y_P_lowestStated c_P_lowestStated 2 (some (.int)) :: zz_all
abbrev c_L_isStated : ByteArray := prog_5_method_3_code
abbrev y_L_isStated : MethodName := ⟨"SegmentTrees$PathLevel", "isStated", "()Z"⟩
/-- the words of L_isStated -/
abbrev w_L_isStated : List Cond := Cond.code y_L_isStated c_L_isStated 1 (some (.boolean)) :: zz_all
abbrev c_P_isMetDownTo : ByteArray := prog_4_method_6_code
abbrev y_P_isMetDownTo : MethodName := ⟨"SegmentTrees$Path", "isMetDownTo", "(ILSegmentTrees$Segment;)Z"⟩
/-- the words of P_isMetDownTo -/
abbrev w_P_isMetDownTo : List Cond := Cond.code y_P_isMetDownTo c_P_isMetDownTo 5 (some (.boolean)) :: zz_all
abbrev c_L_isMetBy : ByteArray := prog_5_method_6_code
abbrev y_L_isMetBy : MethodName := ⟨"SegmentTrees$PathLevel", "isMetBy", "(LSegmentTrees$Segment;)Z"⟩
/-- the words of L_isMetBy -/
abbrev w_L_isMetBy : List Cond := Cond.code y_L_isMetBy c_L_isMetBy 3 (some (.boolean)) :: zz_all
abbrev c_L_compares : ByteArray := prog_5_method_7_code
abbrev y_L_compares : MethodName := ⟨"SegmentTrees$PathLevel", "compares", "(III)Z"⟩
/-- the words of L_compares -/
abbrev w_L_compares : List Cond := Cond.code y_L_compares c_L_compares 3 (some (.boolean)) :: zz_all
abbrev c_T_got : ByteArray := prog_1_method_26_code
abbrev y_T_got : MethodName := ⟨"SegmentTrees", "got", "(LSegmentTrees$Segment;Z)I"⟩
/-- the words of T_got -/
abbrev w_T_got : List Cond := Cond.code y_T_got c_T_got 3 (some (.int)) :: zz_all
abbrev c_Q_standAt : ByteArray := prog_6_method_2_code
abbrev y_Q_standAt : MethodName := ⟨"SegmentTrees$Position", "standAt", "(LSegmentTrees$Segment;)V"⟩
/-- the words of Q_standAt -/
abbrev w_Q_standAt : List Cond := Cond.code y_Q_standAt c_Q_standAt 2 (none) :: zz_all
abbrev c_T_next : ByteArray := prog_1_method_9_code
abbrev y_T_next : MethodName := ⟨"SegmentTrees", "next", "(Z)I"⟩
/-- the words of T_next -/
abbrev w_T_next : List Cond := Cond.code y_T_next c_T_next 2 (some (.int)) :: zz_all
abbrev c_Q_firstBehind : ByteArray := prog_6_method_7_code
abbrev y_Q_firstBehind : MethodName := ⟨"SegmentTrees$Position", "firstBehind", "(LSegmentTrees$Order;)I"⟩
/-- the words of Q_firstBehind -/
abbrev w_Q_firstBehind : List Cond := Cond.code y_Q_firstBehind c_Q_firstBehind 2 (some (.int)) :: zz_all
abbrev c_Q_before : ByteArray := prog_6_method_6_code
abbrev y_Q_before : MethodName := ⟨"SegmentTrees$Position", "before", "(LSegmentTrees$Order;)I"⟩
/-- the words of Q_before -/
abbrev w_Q_before : List Cond := Cond.code y_Q_before c_Q_before 2 (some (.int)) :: zz_all
abbrev c_O_indexOf : ByteArray := prog_3_method_5_code
abbrev y_O_indexOf : MethodName := ⟨"SegmentTrees$Order", "indexOf", "(LSegmentTrees$Segment;)I"⟩
/-- the words of O_indexOf -/
abbrev w_O_indexOf : List Cond := Cond.code y_O_indexOf c_O_indexOf 3 (some (.int)) :: zz_all
abbrev c_T_at : ByteArray := prog_1_method_12_code
abbrev y_T_at : MethodName := ⟨"SegmentTrees", "at", "()I"⟩
/-- the words of T_at -/
abbrev w_T_at : List Cond := Cond.code y_T_at c_T_at 1 (some (.int)) :: zz_all
abbrev c_Q_standing : ByteArray := prog_6_method_5_code
abbrev y_Q_standing : MethodName := ⟨"SegmentTrees$Position", "standing", "()LSegmentTrees$Segment;"⟩
/-- the words of Q_standing -/
abbrev w_Q_standing : List Cond := Cond.code y_Q_standing c_Q_standing 1 (some ((.object "SegmentTrees$Segment"))) :: zz_all
abbrev c_T_numberOf : ByteArray := prog_1_method_22_code
abbrev y_T_numberOf : MethodName := ⟨"SegmentTrees", "numberOf", "(LSegmentTrees$Segment;)I"⟩
/-- the words of T_numberOf -/
abbrev w_T_numberOf : List Cond := Cond.code y_T_numberOf c_T_numberOf 1 (some (.int)) :: zz_all
abbrev c_T_place : ByteArray := prog_1_method_13_code
abbrev y_T_place : MethodName := ⟨"SegmentTrees", "place", "()I"⟩
/-- the words of T_place -/
abbrev w_T_place : List Cond := Cond.code y_T_place c_T_place 1 (some (.int)) :: zz_all
abbrev c_T_count : ByteArray := prog_1_method_19_code
abbrev y_T_count : MethodName := ⟨"SegmentTrees", "count", "()I"⟩
/-- the words of T_count -/
abbrev w_T_count : List Cond := Cond.code y_T_count c_T_count 1 (some (.int)) :: zz_all
abbrev c_T_segment : ByteArray := prog_1_method_20_code
abbrev y_T_segment : MethodName := ⟨"SegmentTrees", "segment", "(II)I"⟩
/-- the words of T_segment -/
abbrev w_T_segment : List Cond := Cond.code y_T_segment c_T_segment 4 (some (.int)) :: zz_all
abbrev c_O_withNumber : ByteArray := prog_3_method_6_code
abbrev y_O_withNumber : MethodName := ⟨"SegmentTrees$Order", "withNumber", "(I)LSegmentTrees$Segment;"⟩
/-- the words of O_withNumber -/
abbrev w_O_withNumber : List Cond := Cond.code y_O_withNumber c_O_withNumber 3 (some ((.object "SegmentTrees$Segment"))) :: zz_all
abbrev c_T_wordAsked : ByteArray := prog_1_method_21_code
abbrev y_T_wordAsked : MethodName := ⟨"SegmentTrees", "wordAsked", "(LSegmentTrees$Segment;I)I"⟩
/-- the words of T_wordAsked -/
abbrev w_T_wordAsked : List Cond := Cond.code y_T_wordAsked c_T_wordAsked 2 (some (.int)) :: zz_all
abbrev c_K_hasWord : ByteArray := prog_2_method_2_code
abbrev y_K_hasWord : MethodName := ⟨"SegmentTrees$Kind", "hasWord", "(I)Z"⟩
/-- the words of K_hasWord -/
abbrev w_K_hasWord : List Cond := Cond.code y_K_hasWord c_K_hasWord 2 (some (.boolean)) :: zz_all
abbrev c_W_type : ByteArray := method_3_code
abbrev y_W_type : MethodName := ⟨"SegmentTreesLaw", "type", "(LSegmentTrees;IIIIZZ)I"⟩
abbrev c_T_type : ByteArray := prog_1_method_2_code
abbrev y_T_type : MethodName := ⟨"SegmentTrees", "type", "(IIIIZZ)V"⟩
/-- the words of T_type -/
abbrev w_T_type : List Cond := Cond.code y_T_type c_T_type 8 (none) :: zz_all
abbrev c_T_kindOf : ByteArray := prog_1_method_23_code
abbrev y_T_kindOf : MethodName := ⟨"SegmentTrees", "kindOf", "(I)LSegmentTrees$Kind;"⟩
/-- the words of T_kindOf -/
abbrev w_T_kindOf : List Cond := Cond.code y_T_kindOf c_T_kindOf 2 (some ((.object "SegmentTrees$Kind"))) :: zz_all
abbrev c_T_refuseAfterInsert : ByteArray := prog_1_method_25_code
abbrev y_T_refuseAfterInsert : MethodName := ⟨"SegmentTrees", "refuseAfterInsert", "()V"⟩
/-- the words of T_refuseAfterInsert -/
abbrev w_T_refuseAfterInsert : List Cond := Cond.code y_T_refuseAfterInsert c_T_refuseAfterInsert 1 (none) :: zz_all
abbrev c_K_init : ByteArray := prog_2_method_1_code
abbrev y_K_init : MethodName := ⟨"SegmentTrees$Kind", "<init>", "(ILSegmentTrees$Kind;IIZZ)V"⟩
/-- the words of K_init -/
abbrev w_K_init : List Cond := Cond.code y_K_init c_K_init 7 (none) :: zz_all
abbrev c_W_twins : ByteArray := method_4_code
abbrev y_W_twins : MethodName := ⟨"SegmentTreesLaw", "twins", "(LSegmentTrees;II)I"⟩
abbrev c_T_twins : ByteArray := prog_1_method_3_code
abbrev y_T_twins : MethodName := ⟨"SegmentTrees", "twins", "(II)V"⟩
/-- the words of T_twins -/
abbrev w_T_twins : List Cond := Cond.code y_T_twins c_T_twins 5 (none) :: zz_all
abbrev c_T_declaredKind : ByteArray := prog_1_method_24_code
abbrev y_T_declaredKind : MethodName := ⟨"SegmentTrees", "declaredKind", "(I)LSegmentTrees$Kind;"⟩
/-- the words of T_declaredKind -/
abbrev w_T_declaredKind : List Cond := Cond.code y_T_declaredKind c_T_declaredKind 3 (some ((.object "SegmentTrees$Kind"))) :: zz_all
abbrev c_K_hasSequence : ByteArray := prog_2_method_3_code
abbrev y_K_hasSequence : MethodName := ⟨"SegmentTrees$Kind", "hasSequence", "()Z"⟩
/-- the words of K_hasSequence -/
abbrev w_K_hasSequence : List Cond := Cond.code y_K_hasSequence c_K_hasSequence 1 (some (.boolean)) :: zz_all
abbrev c_W_second : ByteArray := method_5_code
abbrev y_W_second : MethodName := ⟨"SegmentTreesLaw", "second", "(LSegmentTrees;II)I"⟩
abbrev c_T_second : ByteArray := prog_1_method_4_code
abbrev y_T_second : MethodName := ⟨"SegmentTrees", "second", "(II)V"⟩
/-- the words of T_second -/
abbrev w_T_second : List Cond := Cond.code y_T_second c_T_second 4 (none) :: zz_all
abbrev c_O_nameSecond : ByteArray := prog_3_method_2_code
abbrev y_O_nameSecond : MethodName := ⟨"SegmentTrees$Order", "nameSecond", "(LSegmentTrees$Kind;I)V"⟩
/-- the words of O_nameSecond -/
abbrev w_O_nameSecond : List Cond := Cond.code y_O_nameSecond c_O_nameSecond 3 (none) :: zz_all
abbrev c_W_path : ByteArray := method_6_code
abbrev y_W_path : MethodName := ⟨"SegmentTreesLaw", "path", "(LSegmentTrees;IIII[J)I"⟩
abbrev c_T_path : ByteArray := prog_1_method_6_code
abbrev y_T_path : MethodName := ⟨"SegmentTrees", "path", "(IIII)Z"⟩
/-- the words of T_path -/
abbrev w_T_path : List Cond := Cond.code y_T_path c_T_path 6 (some (.boolean)) :: zz_all
abbrev c_P_state : ByteArray := prog_4_method_3_code
abbrev y_P_state : MethodName := ⟨"SegmentTrees$Path", "state", "(LSegmentTrees$Kind;)Z"⟩
/-- the words of P_state -/
abbrev w_P_state : List Cond := Cond.code y_P_state c_P_state 2 (some (.boolean)) :: zz_all
abbrev c_L_state : ByteArray := prog_5_method_4_code
abbrev y_L_state : MethodName := ⟨"SegmentTrees$PathLevel", "state", "(LSegmentTrees$Kind;)Z"⟩
/-- the words of L_state -/
abbrev w_L_state : List Cond := Cond.code y_L_state c_L_state 2 (some (.boolean)) :: zz_all
abbrev c_P_addCondition : ByteArray := prog_4_method_4_code
abbrev y_P_addCondition : MethodName := ⟨"SegmentTrees$Path", "addCondition", "(LSegmentTrees$Kind;III)Z"⟩
/-- the words of P_addCondition -/
abbrev w_P_addCondition : List Cond := Cond.code y_P_addCondition c_P_addCondition 5 (some (.boolean)) :: zz_all
abbrev c_L_addCondition : ByteArray := prog_5_method_5_code
abbrev y_L_addCondition : MethodName := ⟨"SegmentTrees$PathLevel", "addCondition", "(LSegmentTrees$Kind;III)Z"⟩
/-- the words of L_addCondition -/
abbrev w_L_addCondition : List Cond := Cond.code y_L_addCondition c_L_addCondition 5 (some (.boolean)) :: zz_all
abbrev c_W_work : ByteArray := method_7_code
abbrev y_W_work : MethodName := ⟨"SegmentTreesLaw", "work", "(LSegmentTrees;II)I"⟩
abbrev c_T_work : ByteArray := prog_1_method_7_code
abbrev y_T_work : MethodName := ⟨"SegmentTrees", "work", "(II)V"⟩
/-- the words of T_work -/
abbrev w_T_work : List Cond := Cond.code y_T_work c_T_work 3 (none) :: zz_all
abbrev c_W_within : ByteArray := method_8_code
abbrev y_W_within : MethodName := ⟨"SegmentTreesLaw", "within", "(LSegmentTrees;Z[J)I"⟩
abbrev c_T_within : ByteArray := prog_1_method_10_code
abbrev y_T_within : MethodName := ⟨"SegmentTrees", "within", "(Z)I"⟩
/-- the words of T_within -/
abbrev w_T_within : List Cond := Cond.code y_T_within c_T_within 2 (some (.int)) :: zz_all
abbrev c_W_fix : ByteArray := method_9_code
abbrev y_W_fix : MethodName := ⟨"SegmentTreesLaw", "fix", "(LSegmentTrees;[J)I"⟩
abbrev c_T_fix : ByteArray := prog_1_method_11_code
abbrev y_T_fix : MethodName := ⟨"SegmentTrees", "fix", "()I"⟩
/-- the words of T_fix -/
abbrev w_T_fix : List Cond := Cond.code y_T_fix c_T_fix 2 (some (.int)) :: zz_all
abbrev c_W_word : ByteArray := method_10_code
abbrev y_W_word : MethodName := ⟨"SegmentTreesLaw", "word", "(LSegmentTrees;I[J)I"⟩
abbrev c_T_word : ByteArray := prog_1_method_14_code
abbrev y_T_word : MethodName := ⟨"SegmentTrees", "word", "(I)I"⟩
/-- the words of T_word -/
abbrev w_T_word : List Cond := Cond.code y_T_word c_T_word 3 (some (.int)) :: zz_all
abbrev c_W_insert : ByteArray := method_11_code
abbrev y_W_insert : MethodName := ⟨"SegmentTreesLaw", "insert", "(LSegmentTrees;I[J)I"⟩
abbrev c_T_insert : ByteArray := prog_1_method_15_code
abbrev y_T_insert : MethodName := ⟨"SegmentTrees", "insert", "(I)I"⟩
/-- the words of T_insert -/
abbrev w_T_insert : List Cond := Cond.code y_T_insert c_T_insert 5 (some (.int)) :: zz_all
abbrev c_O_firstParent : ByteArray := prog_3_method_8_code
abbrev y_O_firstParent : MethodName := ⟨"SegmentTrees$Order", "firstParent", "(LSegmentTrees$Kind;LSegmentTrees$Path;)LSegmentTrees$Segment;"⟩
/-- the words of O_firstParent -/
abbrev w_O_firstParent : List Cond := Cond.code y_O_firstParent c_O_firstParent 4 (some ((.object "SegmentTrees$Segment"))) :: zz_all
abbrev c_O_hasSibling : ByteArray := prog_3_method_9_code
abbrev y_O_hasSibling : MethodName := ⟨"SegmentTrees$Order", "hasSibling", "(LSegmentTrees$Kind;LSegmentTrees$Segment;[I)Z"⟩
/-- the words of O_hasSibling -/
abbrev w_O_hasSibling : List Cond := Cond.code y_O_hasSibling c_O_hasSibling 6 (some (.boolean)) :: zz_all
abbrev c_S_hasSequenceOf : ByteArray := prog_7_method_3_code
abbrev y_S_hasSequenceOf : MethodName := ⟨"SegmentTrees$Segment", "hasSequenceOf", "([I)Z"⟩
/-- the words of S_hasSequenceOf -/
abbrev w_S_hasSequenceOf : List Cond := Cond.code y_S_hasSequenceOf c_S_hasSequenceOf 2 (some (.boolean)) :: zz_all
abbrev c_S_init : ByteArray := prog_7_method_1_code
abbrev y_S_init : MethodName := ⟨"SegmentTrees$Segment", "<init>", "(ILSegmentTrees$Kind;LSegmentTrees$Segment;)V"⟩
/-- the words of S_init -/
abbrev w_S_init : List Cond := Cond.code y_S_init c_S_init 4 (none) :: zz_all
abbrev c_S_takeWords : ByteArray := prog_7_method_2_code
abbrev y_S_takeWords : MethodName := ⟨"SegmentTrees$Segment", "takeWords", "([I)V"⟩
/-- the words of S_takeWords -/
abbrev w_S_takeWords : List Cond := Cond.code y_S_takeWords c_S_takeWords 2 (none) :: zz_all
abbrev c_T_joinTwin : ByteArray := prog_1_method_27_code
abbrev y_T_joinTwin : MethodName := ⟨"SegmentTrees", "joinTwin", "(LSegmentTrees$Segment;)V"⟩
/-- the words of T_joinTwin -/
abbrev w_T_joinTwin : List Cond := Cond.code y_T_joinTwin c_T_joinTwin 3 (none) :: zz_all
abbrev c_O_freeTwinFor : ByteArray := prog_3_method_10_code
abbrev y_O_freeTwinFor : MethodName := ⟨"SegmentTrees$Order", "freeTwinFor", "(LSegmentTrees$Segment;)LSegmentTrees$Segment;"⟩
/-- the words of O_freeTwinFor -/
abbrev w_O_freeTwinFor : List Cond := Cond.code y_O_freeTwinFor c_O_freeTwinFor 5 (some ((.object "SegmentTrees$Segment"))) :: zz_all
abbrev c_O_enter : ByteArray := prog_3_method_11_code
abbrev y_O_enter : MethodName := ⟨"SegmentTrees$Order", "enter", "(LSegmentTrees$Segment;)V"⟩
/-- the words of O_enter -/
abbrev w_O_enter : List Cond := Cond.code y_O_enter c_O_enter 4 (none) :: zz_all
abbrev c_O_entryOf : ByteArray := prog_3_method_12_code
abbrev y_O_entryOf : MethodName := ⟨"SegmentTrees$Order", "entryOf", "(LSegmentTrees$Segment;)I"⟩
/-- the words of O_entryOf -/
abbrev w_O_entryOf : List Cond := Cond.code y_O_entryOf c_O_entryOf 5 (some (.int)) :: zz_all
abbrev c_S_entersBefore : ByteArray := prog_7_method_10_code
abbrev y_S_entersBefore : MethodName := ⟨"SegmentTrees$Segment", "entersBefore", "(LSegmentTrees$Segment;)Z"⟩
/-- the words of S_entersBefore -/
abbrev w_S_entersBefore : List Cond := Cond.code y_S_entersBefore c_S_entersBefore 4 (some (.boolean)) :: zz_all
abbrev c_O_arrange : ByteArray := prog_3_method_15_code
abbrev y_O_arrange : MethodName := ⟨"SegmentTrees$Order", "arrange", "()V"⟩
/-- the words of O_arrange -/
abbrev w_O_arrange : List Cond := Cond.code y_O_arrange c_O_arrange 1 (none) :: zz_all
abbrev c_O_findValues : ByteArray := prog_3_method_16_code
abbrev y_O_findValues : MethodName := ⟨"SegmentTrees$Order", "findValues", "()V"⟩
/-- the words of O_findValues -/
abbrev w_O_findValues : List Cond := Cond.code y_O_findValues c_O_findValues 4 (none) :: zz_all
abbrev c_S_clearValue : ByteArray := prog_7_method_7_code
abbrev y_S_clearValue : MethodName := ⟨"SegmentTrees$Segment", "clearValue", "()V"⟩
/-- the words of S_clearValue -/
abbrev w_S_clearValue : List Cond := Cond.code y_S_clearValue c_S_clearValue 1 (none) :: zz_all
abbrev c_S_offerValue : ByteArray := prog_7_method_8_code
abbrev y_S_offerValue : MethodName := ⟨"SegmentTrees$Segment", "offerValue", "(I)V"⟩
/-- the words of S_offerValue -/
abbrev w_S_offerValue : List Cond := Cond.code y_S_offerValue c_S_offerValue 2 (none) :: zz_all
abbrev c_K_rootKind : ByteArray := prog_2_method_4_code
abbrev y_K_rootKind : MethodName := ⟨"SegmentTrees$Kind", "rootKind", "()LSegmentTrees$Kind;"⟩
/-- the words of K_rootKind -/
abbrev w_K_rootKind : List Cond := Cond.code y_K_rootKind c_K_rootKind 3 (some ((.object "SegmentTrees$Kind"))) :: zz_all
abbrev c_O_arrangeRoots : ByteArray := prog_3_method_17_code
abbrev y_O_arrangeRoots : MethodName := ⟨"SegmentTrees$Order", "arrangeRoots", "(LSegmentTrees$Kind;)V"⟩
/-- the words of O_arrangeRoots -/
abbrev w_O_arrangeRoots : List Cond := Cond.code y_O_arrangeRoots c_O_arrangeRoots 5 (none) :: zz_all
abbrev c_O_leastRootAfter : ByteArray := prog_3_method_18_code
abbrev y_O_leastRootAfter : MethodName := ⟨"SegmentTrees$Order", "leastRootAfter", "(LSegmentTrees$Kind;LSegmentTrees$Segment;)I"⟩
/-- the words of O_leastRootAfter -/
abbrev w_O_leastRootAfter : List Cond := Cond.code y_O_leastRootAfter c_O_leastRootAfter 6 (some (.int)) :: zz_all
abbrev c_S_comesBeforeBySecond : ByteArray := prog_7_method_9_code
abbrev y_S_comesBeforeBySecond : MethodName := ⟨"SegmentTrees$Segment", "comesBeforeBySecond", "(LSegmentTrees$Segment;)Z"⟩
/-- the words of S_comesBeforeBySecond -/
abbrev w_S_comesBeforeBySecond : List Cond := Cond.code y_S_comesBeforeBySecond c_S_comesBeforeBySecond 2 (some (.boolean)) :: zz_all
abbrev c_O_copyTree : ByteArray := prog_3_method_19_code
abbrev y_O_copyTree : MethodName := ⟨"SegmentTrees$Order", "copyTree", "(II)I"⟩
/-- the words of O_copyTree -/
abbrev w_O_copyTree : List Cond := Cond.code y_O_copyTree c_O_copyTree 6 (some (.int)) :: zz_all
abbrev c_W_replace : ByteArray := method_12_code
abbrev y_W_replace : MethodName := ⟨"SegmentTreesLaw", "replace", "(LSegmentTrees;[J)I"⟩
abbrev c_T_replace : ByteArray := prog_1_method_16_code
abbrev y_T_replace : MethodName := ⟨"SegmentTrees", "replace", "()Z"⟩
/-- the words of T_replace -/
abbrev w_T_replace : List Cond := Cond.code y_T_replace c_T_replace 2 (some (.boolean)) :: zz_all
abbrev c_W_delete : ByteArray := method_13_code
abbrev y_W_delete : MethodName := ⟨"SegmentTreesLaw", "delete", "(LSegmentTrees;[J)I"⟩
abbrev c_T_delete : ByteArray := prog_1_method_17_code
abbrev y_T_delete : MethodName := ⟨"SegmentTrees", "delete", "()I"⟩
/-- the words of T_delete -/
abbrev w_T_delete : List Cond := Cond.code y_T_delete c_T_delete 4 (some (.int)) :: zz_all
abbrev c_O_firstBehindTree : ByteArray := prog_3_method_13_code
abbrev y_O_firstBehindTree : MethodName := ⟨"SegmentTrees$Order", "firstBehindTree", "(LSegmentTrees$Segment;)LSegmentTrees$Segment;"⟩
/-- the words of O_firstBehindTree -/
abbrev w_O_firstBehindTree : List Cond := Cond.code y_O_firstBehindTree c_O_firstBehindTree 3 (some ((.object "SegmentTrees$Segment"))) :: zz_all
abbrev c_O_removeTree : ByteArray := prog_3_method_14_code
abbrev y_O_removeTree : MethodName := ⟨"SegmentTrees$Order", "removeTree", "(LSegmentTrees$Segment;)I"⟩
/-- the words of O_removeTree -/
abbrev w_O_removeTree : List Cond := Cond.code y_O_removeTree c_O_removeTree 5 (some (.int)) :: zz_all
abbrev c_Q_standInFrontOf : ByteArray := prog_6_method_4_code
abbrev y_Q_standInFrontOf : MethodName := ⟨"SegmentTrees$Position", "standInFrontOf", "(LSegmentTrees$Segment;)V"⟩
/-- the words of Q_standInFrontOf -/
abbrev w_Q_standInFrontOf : List Cond := Cond.code y_Q_standInFrontOf c_Q_standInFrontOf 2 (none) :: zz_all
abbrev c_W_bySecond : ByteArray := method_14_code
abbrev y_W_bySecond : MethodName := ⟨"SegmentTreesLaw", "bySecond", "(LSegmentTrees;Z)I"⟩
abbrev c_T_bySecond : ByteArray := prog_1_method_18_code
abbrev y_T_bySecond : MethodName := ⟨"SegmentTrees", "bySecond", "(Z)V"⟩
/-- the words of T_bySecond -/
abbrev w_T_bySecond : List Cond := Cond.code y_T_bySecond c_T_bySecond 2 (none) :: zz_all
abbrev c_O_hasSecond : ByteArray := prog_3_method_3_code
abbrev y_O_hasSecond : MethodName := ⟨"SegmentTrees$Order", "hasSecond", "()Z"⟩
/-- the words of O_hasSecond -/
abbrev w_O_hasSecond : List Cond := Cond.code y_O_hasSecond c_O_hasSecond 1 (some (.boolean)) :: zz_all
abbrev c_O_turnSecond : ByteArray := prog_3_method_4_code
abbrev y_O_turnSecond : MethodName := ⟨"SegmentTrees$Order", "turnSecond", "(Z)V"⟩
/-- the words of O_turnSecond -/
abbrev w_O_turnSecond : List Cond := Cond.code y_O_turnSecond c_O_turnSecond 2 (none) :: zz_all
abbrev c_Q_standInFrontOfAll : ByteArray := prog_6_method_3_code
abbrev y_Q_standInFrontOfAll : MethodName := ⟨"SegmentTrees$Position", "standInFrontOfAll", "()V"⟩
/-- the words of Q_standInFrontOfAll -/
abbrev w_Q_standInFrontOfAll : List Cond := Cond.code y_Q_standInFrontOfAll c_Q_standInFrontOfAll 1 (none) :: zz_all
abbrev c_M_init : ByteArray := prog_9_method_1_code
abbrev y_M_init : MethodName := ⟨"SegmentTreesModel", "<init>", "()V"⟩
/-- the words of M_init -/
abbrev w_M_init : List Cond := Cond.code y_M_init c_M_init 2 (none) :: zz_all
abbrev c_M_thrown : ByteArray := prog_9_method_2_code
abbrev y_M_thrown : MethodName := ⟨"SegmentTreesModel", "thrown", "()I"⟩
/-- the words of M_thrown -/
abbrev w_M_thrown : List Cond := Cond.code y_M_thrown c_M_thrown 1 (some (.int)) :: zz_all
abbrev c_M_type : ByteArray := prog_9_method_7_code
abbrev y_M_type : MethodName := ⟨"SegmentTreesModel", "type", "(IIIIZZ)V"⟩
/-- the words of M_type -/
abbrev w_M_type : List Cond := Cond.code y_M_type c_M_type 8 (none) :: zz_all
abbrev c_M_begin : ByteArray := prog_9_method_4_code
abbrev y_M_begin : MethodName := ⟨"SegmentTreesModel", "begin", "()V"⟩
/-- the words of M_begin -/
abbrev w_M_begin : List Cond := Cond.code y_M_begin c_M_begin 1 (none) :: zz_all
abbrev c_M_isType : ByteArray := prog_9_method_5_code
abbrev y_M_isType : MethodName := ⟨"SegmentTreesModel", "isType", "(I)Z"⟩
/-- the words of M_isType -/
abbrev w_M_isType : List Cond := Cond.code y_M_isType c_M_isType 2 (some (.boolean)) :: zz_all
abbrev c_M_twins : ByteArray := prog_9_method_8_code
abbrev y_M_twins : MethodName := ⟨"SegmentTreesModel", "twins", "(II)V"⟩
/-- the words of M_twins -/
abbrev w_M_twins : List Cond := Cond.code y_M_twins c_M_twins 3 (none) :: zz_all
abbrev c_M_second : ByteArray := prog_9_method_9_code
abbrev y_M_second : MethodName := ⟨"SegmentTreesModel", "second", "(II)V"⟩
/-- the words of M_second -/
abbrev w_M_second : List Cond := Cond.code y_M_second c_M_second 3 (none) :: zz_all
abbrev c_M_hasWord : ByteArray := prog_9_method_6_code
abbrev y_M_hasWord : MethodName := ⟨"SegmentTreesModel", "hasWord", "(II)Z"⟩
/-- the words of M_hasWord -/
abbrev w_M_hasWord : List Cond := Cond.code y_M_hasWord c_M_hasWord 3 (some (.boolean)) :: zz_all
abbrev c_M_clearPath : ByteArray := prog_9_method_10_code
abbrev y_M_clearPath : MethodName := ⟨"SegmentTreesModel", "clearPath", "()V"⟩
/-- the words of M_clearPath -/
abbrev w_M_clearPath : List Cond := Cond.code y_M_clearPath c_M_clearPath 2 (none) :: zz_all
abbrev c_M_path : ByteArray := prog_9_method_11_code
abbrev y_M_path : MethodName := ⟨"SegmentTreesModel", "path", "(IIII)Z"⟩
/-- the words of M_path -/
abbrev w_M_path : List Cond := Cond.code y_M_path c_M_path 7 (some (.boolean)) :: zz_all
abbrev c_M_work : ByteArray := prog_9_method_16_code
abbrev y_M_work : MethodName := ⟨"SegmentTreesModel", "work", "(II)V"⟩
/-- the words of M_work -/
abbrev w_M_work : List Cond := Cond.code y_M_work c_M_work 3 (none) :: zz_all
abbrev c_M_unique : ByteArray := prog_9_method_28_code
abbrev y_M_unique : MethodName := ⟨"SegmentTreesModel", "unique", "(Z)I"⟩
/-- the words of M_unique -/
abbrev w_M_unique : List Cond := Cond.code y_M_unique c_M_unique 2 (some (.int)) :: zz_all
abbrev c_M_sort : ByteArray := prog_9_method_24_code
abbrev y_M_sort : MethodName := ⟨"SegmentTreesModel", "sort", "()V"⟩
/-- the words of M_sort -/
abbrev w_M_sort : List Cond := Cond.code y_M_sort c_M_sort 4 (none) :: zz_all
abbrev c_M_findValues : ByteArray := prog_9_method_21_code
abbrev y_M_findValues : MethodName := ⟨"SegmentTreesModel", "findValues", "()V"⟩
/-- the words of M_findValues -/
abbrev w_M_findValues : List Cond := Cond.code y_M_findValues c_M_findValues 5 (none) :: zz_all
abbrev c_M_rootOf : ByteArray := prog_9_method_17_code
abbrev y_M_rootOf : MethodName := ⟨"SegmentTreesModel", "rootOf", "(I)I"⟩
/-- the words of M_rootOf -/
abbrev w_M_rootOf : List Cond := Cond.code y_M_rootOf c_M_rootOf 3 (some (.int)) :: zz_all
abbrev c_M_isFirst : ByteArray := prog_9_method_23_code
abbrev y_M_isFirst : MethodName := ⟨"SegmentTreesModel", "isFirst", "(II)Z"⟩
/-- the words of M_isFirst -/
abbrev w_M_isFirst : List Cond := Cond.code y_M_isFirst c_M_isFirst 8 (some (.boolean)) :: zz_all
abbrev c_M_atLevel : ByteArray := prog_9_method_19_code
abbrev y_M_atLevel : MethodName := ⟨"SegmentTreesModel", "atLevel", "(II)I"⟩
/-- the words of M_atLevel -/
abbrev w_M_atLevel : List Cond := Cond.code y_M_atLevel c_M_atLevel 4 (some (.int)) :: zz_all
abbrev c_M_isSiblingFirst : ByteArray := prog_9_method_22_code
abbrev y_M_isSiblingFirst : MethodName := ⟨"SegmentTreesModel", "isSiblingFirst", "(II)Z"⟩
/-- the words of M_isSiblingFirst -/
abbrev w_M_isSiblingFirst : List Cond := Cond.code y_M_isSiblingFirst c_M_isSiblingFirst 5 (some (.boolean)) :: zz_all
abbrev c_M_rootType : ByteArray := prog_9_method_20_code
abbrev y_M_rootType : MethodName := ⟨"SegmentTreesModel", "rootType", "(I)I"⟩
/-- the words of M_rootType -/
abbrev w_M_rootType : List Cond := Cond.code y_M_rootType c_M_rootType 3 (some (.int)) :: zz_all
abbrev c_M_get : ByteArray := prog_9_method_27_code
abbrev y_M_get : MethodName := ⟨"SegmentTreesModel", "get", "(IIZ)I"⟩
/-- the words of M_get -/
abbrev w_M_get : List Cond := Cond.code y_M_get c_M_get 6 (some (.int)) :: zz_all
abbrev c_M_isBelow : ByteArray := prog_9_method_18_code
abbrev y_M_isBelow : MethodName := ⟨"SegmentTreesModel", "isBelow", "(II)Z"⟩
/-- the words of M_isBelow -/
abbrev w_M_isBelow : List Cond := Cond.code y_M_isBelow c_M_isBelow 4 (some (.boolean)) :: zz_all
abbrev c_M_meets : ByteArray := prog_9_method_15_code
abbrev y_M_meets : MethodName := ⟨"SegmentTreesModel", "meets", "(I)Z"⟩
/-- the words of M_meets -/
abbrev w_M_meets : List Cond := Cond.code y_M_meets c_M_meets 4 (some (.boolean)) :: zz_all
abbrev c_M_fitsAbove : ByteArray := prog_9_method_14_code
abbrev y_M_fitsAbove : MethodName := ⟨"SegmentTreesModel", "fitsAbove", "(I)Z"⟩
/-- the words of M_fitsAbove -/
abbrev w_M_fitsAbove : List Cond := Cond.code y_M_fitsAbove c_M_fitsAbove 4 (some (.boolean)) :: zz_all
abbrev c_M_fits : ByteArray := prog_9_method_13_code
abbrev y_M_fits : MethodName := ⟨"SegmentTreesModel", "fits", "(I)Z"⟩
/-- the words of M_fits -/
abbrev w_M_fits : List Cond := Cond.code y_M_fits c_M_fits 5 (some (.boolean)) :: zz_all
abbrev c_M_holds : ByteArray := prog_9_method_12_code
abbrev y_M_holds : MethodName := ⟨"SegmentTreesModel", "holds", "(III)Z"⟩
/-- the words of M_holds -/
abbrev w_M_holds : List Cond := Cond.code y_M_holds c_M_holds 3 (some (.boolean)) :: zz_all
abbrev c_M_next : ByteArray := prog_9_method_29_code
abbrev y_M_next : MethodName := ⟨"SegmentTreesModel", "next", "(Z)I"⟩
/-- the words of M_next -/
abbrev w_M_next : List Cond := Cond.code y_M_next c_M_next 2 (some (.int)) :: zz_all
abbrev c_M_behind : ByteArray := prog_9_method_26_code
abbrev y_M_behind : MethodName := ⟨"SegmentTreesModel", "behind", "()I"⟩
/-- the words of M_behind -/
abbrev w_M_behind : List Cond := Cond.code y_M_behind c_M_behind 1 (some (.int)) :: zz_all
abbrev c_M_indexOf : ByteArray := prog_9_method_25_code
abbrev y_M_indexOf : MethodName := ⟨"SegmentTreesModel", "indexOf", "(I)I"⟩
/-- the words of M_indexOf -/
abbrev w_M_indexOf : List Cond := Cond.code y_M_indexOf c_M_indexOf 3 (some (.int)) :: zz_all
abbrev c_M_within : ByteArray := prog_9_method_30_code
abbrev y_M_within : MethodName := ⟨"SegmentTreesModel", "within", "(Z)I"⟩
/-- the words of M_within -/
abbrev w_M_within : List Cond := Cond.code y_M_within c_M_within 2 (some (.int)) :: zz_all
abbrev c_M_refuse : ByteArray := prog_9_method_3_code
abbrev y_M_refuse : MethodName := ⟨"SegmentTreesModel", "refuse", "(I)I"⟩
/-- the words of M_refuse -/
abbrev w_M_refuse : List Cond := Cond.code y_M_refuse c_M_refuse 2 (some (.int)) :: zz_all
abbrev c_M_fix : ByteArray := prog_9_method_31_code
abbrev y_M_fix : MethodName := ⟨"SegmentTreesModel", "fix", "()I"⟩
/-- the words of M_fix -/
abbrev w_M_fix : List Cond := Cond.code y_M_fix c_M_fix 1 (some (.int)) :: zz_all
abbrev c_M_at : ByteArray := prog_9_method_32_code
abbrev y_M_at : MethodName := ⟨"SegmentTreesModel", "at", "()I"⟩
/-- the words of M_at -/
abbrev w_M_at : List Cond := Cond.code y_M_at c_M_at 1 (some (.int)) :: zz_all
abbrev c_M_place : ByteArray := prog_9_method_33_code
abbrev y_M_place : MethodName := ⟨"SegmentTreesModel", "place", "()I"⟩
/-- the words of M_place -/
abbrev w_M_place : List Cond := Cond.code y_M_place c_M_place 1 (some (.int)) :: zz_all
abbrev c_M_word : ByteArray := prog_9_method_34_code
abbrev y_M_word : MethodName := ⟨"SegmentTreesModel", "word", "(I)I"⟩
/-- the words of M_word -/
abbrev w_M_word : List Cond := Cond.code y_M_word c_M_word 2 (some (.int)) :: zz_all
abbrev c_M_insert : ByteArray := prog_9_method_39_code
abbrev y_M_insert : MethodName := ⟨"SegmentTreesModel", "insert", "(I)I"⟩
/-- the words of M_insert -/
abbrev w_M_insert : List Cond := Cond.code y_M_insert c_M_insert 5 (some (.int)) :: zz_all
abbrev c_M_findParent : ByteArray := prog_9_method_36_code
abbrev y_M_findParent : MethodName := ⟨"SegmentTreesModel", "findParent", "(I)I"⟩
/-- the words of M_findParent -/
abbrev w_M_findParent : List Cond := Cond.code y_M_findParent c_M_findParent 4 (some (.int)) :: zz_all
abbrev c_M_isTaken : ByteArray := prog_9_method_37_code
abbrev y_M_isTaken : MethodName := ⟨"SegmentTreesModel", "isTaken", "(II)Z"⟩
/-- the words of M_isTaken -/
abbrev w_M_isTaken : List Cond := Cond.code y_M_isTaken c_M_isTaken 6 (some (.boolean)) :: zz_all
abbrev c_M_findTwin : ByteArray := prog_9_method_38_code
abbrev y_M_findTwin : MethodName := ⟨"SegmentTreesModel", "findTwin", "(I)I"⟩
/-- the words of M_findTwin -/
abbrev w_M_findTwin : List Cond := Cond.code y_M_findTwin c_M_findTwin 6 (some (.int)) :: zz_all
abbrev c_M_putWords : ByteArray := prog_9_method_35_code
abbrev y_M_putWords : MethodName := ⟨"SegmentTreesModel", "putWords", "(I)V"⟩
/-- the words of M_putWords -/
abbrev w_M_putWords : List Cond := Cond.code y_M_putWords c_M_putWords 3 (none) :: zz_all
abbrev c_M_replace : ByteArray := prog_9_method_40_code
abbrev y_M_replace : MethodName := ⟨"SegmentTreesModel", "replace", "()Z"⟩
/-- the words of M_replace -/
abbrev w_M_replace : List Cond := Cond.code y_M_replace c_M_replace 3 (some (.boolean)) :: zz_all
abbrev c_M_delete : ByteArray := prog_9_method_41_code
abbrev y_M_delete : MethodName := ⟨"SegmentTreesModel", "delete", "()I"⟩
/-- the words of M_delete -/
abbrev w_M_delete : List Cond := Cond.code y_M_delete c_M_delete 5 (some (.int)) :: zz_all
abbrev c_M_bySecond : ByteArray := prog_9_method_42_code
abbrev y_M_bySecond : MethodName := ⟨"SegmentTreesModel", "bySecond", "(Z)V"⟩
/-- the words of M_bySecond -/
abbrev w_M_bySecond : List Cond := Cond.code y_M_bySecond c_M_bySecond 2 (none) :: zz_all
abbrev c_M_count : ByteArray := prog_9_method_43_code
abbrev y_M_count : MethodName := ⟨"SegmentTreesModel", "count", "()I"⟩
/-- the words of M_count -/
abbrev w_M_count : List Cond := Cond.code y_M_count c_M_count 1 (some (.int)) :: zz_all
abbrev c_M_segment : ByteArray := prog_9_method_44_code
abbrev y_M_segment : MethodName := ⟨"SegmentTreesModel", "segment", "(II)I"⟩
/-- the words of M_segment -/
abbrev w_M_segment : List Cond := Cond.code y_M_segment c_M_segment 5 (some (.int)) :: zz_all
theorem ci_W_59 : zz_CI "SegmentTreesLaw" 59 0 y_T_init c_T_init 1 0 := ⟨⟨_, _, rfl⟩, zz_in (i := 52) (by decide +kernel) (by decide +kernel), zz_in (i := 53) (by decide +kernel) (by decide +kernel), zz_in (i := 35) (by decide +kernel) (by decide +kernel), zz_in (i := 54) (by decide +kernel) (by decide +kernel), rfl, by decide, by decide, by decide +kernel⟩
theorem ci_T_21 : zz_CI "SegmentTrees" 21 4 y_P_init c_P_init 2 0 := ⟨⟨_, _, rfl⟩, zz_in (i := 62) (by decide +kernel) (by decide +kernel), zz_in (i := 63) (by decide +kernel) (by decide +kernel), zz_in (i := 36) (by decide +kernel) (by decide +kernel), zz_in (i := 64) (by decide +kernel) (by decide +kernel), rfl, by decide, by decide, by decide +kernel⟩
theorem cn_P_17 : zz_CN "SegmentTrees$Path" 17 3 y_L_init "SegmentTrees" c_L_init 1 0 := ⟨⟨_, _, rfl⟩, zz_in (i := 69) (by decide +kernel) (by decide +kernel), zz_in (i := 70) (by decide +kernel) (by decide +kernel), zz_in (i := 37) (by decide +kernel) (by decide +kernel), zz_in (i := 71) (by decide +kernel) (by decide +kernel), rfl, by decide, by decide, by decide +kernel⟩
theorem gf_L_21 : zz_GF "SegmentTrees$PathLevel" 21 3 0 (some 1) false := ⟨_, _, _, rfl, by decide, zz_in (i := 73) (by decide +kernel) (by decide +kernel), rfl, rfl⟩
theorem gf_L_25 : zz_GF "SegmentTrees$PathLevel" 25 3 1 none false := ⟨_, _, _, rfl, by decide, zz_in (i := 74) (by decide +kernel) (by decide +kernel), rfl, rfl⟩
theorem gf_L_9 : zz_GF "SegmentTrees$PathLevel" 9 3 2 (some 90) true := ⟨_, _, _, rfl, by decide, zz_in (i := 75) (by decide +kernel) (by decide +kernel), rfl, rfl⟩
theorem gf_L_15 : zz_GF "SegmentTrees$PathLevel" 15 3 3 (some 90) true := ⟨_, _, _, rfl, by decide, zz_in (i := 76) (by decide +kernel) (by decide +kernel), rfl, rfl⟩
theorem gf_L_18 : zz_GF "SegmentTrees$PathLevel" 18 3 4 (some 90) true := ⟨_, _, _, rfl, by decide, zz_in (i := 77) (by decide +kernel) (by decide +kernel), rfl, rfl⟩
theorem gf_P_11 : zz_GF "SegmentTrees$Path" 11 4 0 (some 103) true := ⟨_, _, _, rfl, by decide, zz_in (i := 90) (by decide +kernel) (by decide +kernel), rfl, rfl⟩
theorem cn_T_28 : zz_CN "SegmentTrees" 28 5 y_O_init "SegmentTrees" c_O_init 1 0 := ⟨⟨_, _, rfl⟩, zz_in (i := 96) (by decide +kernel) (by decide +kernel), zz_in (i := 97) (by decide +kernel) (by decide +kernel), zz_in (i := 38) (by decide +kernel) (by decide +kernel), zz_in (i := 98) (by decide +kernel) (by decide +kernel), rfl, by decide, by decide, by decide +kernel⟩
theorem gf_O_11 : zz_GF "SegmentTrees$Order" 11 5 0 (some 102) true := ⟨_, _, _, rfl, by decide, zz_in (i := 102) (by decide +kernel) (by decide +kernel), rfl, rfl⟩
theorem gf_O_17 : zz_GF "SegmentTrees$Order" 17 5 1 (some 102) true := ⟨_, _, _, rfl, by decide, zz_in (i := 103) (by decide +kernel) (by decide +kernel), rfl, rfl⟩
theorem gf_O_35 : zz_GF "SegmentTrees$Order" 35 5 2 none false := ⟨_, _, _, rfl, by decide, zz_in (i := 104) (by decide +kernel) (by decide +kernel), rfl, rfl⟩
theorem gf_Q_26 : zz_GF "SegmentTrees$Position" 26 5 2 none false := ⟨_, _, _, rfl, by decide, zz_in (i := 105) (by decide +kernel) (by decide +kernel), rfl, rfl⟩
theorem gf_T_191 : zz_GF "SegmentTrees" 191 5 2 none false := ⟨_, _, _, rfl, by decide, zz_in (i := 106) (by decide +kernel) (by decide +kernel), rfl, rfl⟩
theorem gf_O_20 : zz_GF "SegmentTrees$Order" 20 5 3 (some 1) false := ⟨_, _, _, rfl, by decide, zz_in (i := 107) (by decide +kernel) (by decide +kernel), rfl, rfl⟩
theorem gf_O_24 : zz_GF "SegmentTrees$Order" 24 5 4 none false := ⟨_, _, _, rfl, by decide, zz_in (i := 108) (by decide +kernel) (by decide +kernel), rfl, rfl⟩
theorem gf_O_28 : zz_GF "SegmentTrees$Order" 28 5 5 none false := ⟨_, _, _, rfl, by decide, zz_in (i := 109) (by decide +kernel) (by decide +kernel), rfl, rfl⟩
theorem cn_T_35 : zz_CN "SegmentTrees" 35 6 y_Q_init "SegmentTrees" c_Q_init 1 0 := ⟨⟨_, _, rfl⟩, zz_in (i := 125) (by decide +kernel) (by decide +kernel), zz_in (i := 126) (by decide +kernel) (by decide +kernel), zz_in (i := 39) (by decide +kernel) (by decide +kernel), zz_in (i := 127) (by decide +kernel) (by decide +kernel), rfl, by decide, by decide, by decide +kernel⟩
theorem gf_Q_7 : zz_GF "SegmentTrees$Position" 7 6 0 (some 2) false := ⟨_, _, _, rfl, by decide, zz_in (i := 129) (by decide +kernel) (by decide +kernel), rfl, rfl⟩
theorem gf_Q_13 : zz_GF "SegmentTrees$Position" 13 6 1 none false := ⟨_, _, _, rfl, by decide, zz_in (i := 130) (by decide +kernel) (by decide +kernel), rfl, rfl⟩
theorem gf_Q_17 : zz_GF "SegmentTrees$Position" 17 6 2 none false := ⟨_, _, _, rfl, by decide, zz_in (i := 131) (by decide +kernel) (by decide +kernel), rfl, rfl⟩
theorem gf_T_11 : zz_GF "SegmentTrees" 11 0 0 (some 101) true := ⟨_, _, _, rfl, by decide, zz_in (i := 139) (by decide +kernel) (by decide +kernel), rfl, rfl⟩
theorem gf_T_15 : zz_GF "SegmentTrees" 15 0 1 (some 90) true := ⟨_, _, _, rfl, by decide, zz_in (i := 140) (by decide +kernel) (by decide +kernel), rfl, rfl⟩
theorem gf_T_22 : zz_GF "SegmentTrees" 22 0 2 (some 4) true := ⟨_, _, _, rfl, by decide, zz_in (i := 141) (by decide +kernel) (by decide +kernel), rfl, rfl⟩
theorem gf_T_29 : zz_GF "SegmentTrees" 29 0 3 (some 5) true := ⟨_, _, _, rfl, by decide, zz_in (i := 142) (by decide +kernel) (by decide +kernel), rfl, rfl⟩
theorem gf_T_36 : zz_GF "SegmentTrees" 36 0 4 (some 6) true := ⟨_, _, _, rfl, by decide, zz_in (i := 143) (by decide +kernel) (by decide +kernel), rfl, rfl⟩
theorem gf_T_40 : zz_GF "SegmentTrees" 40 0 5 (some 2) false := ⟨_, _, _, rfl, by decide, zz_in (i := 144) (by decide +kernel) (by decide +kernel), rfl, rfl⟩
theorem gf_T_145 : zz_GF "SegmentTrees" 145 0 6 (some 2) false := ⟨_, _, _, rfl, by decide, zz_in (i := 145) (by decide +kernel) (by decide +kernel), rfl, rfl⟩
theorem gf_T_194 : zz_GF "SegmentTrees" 194 0 7 none false := ⟨_, _, _, rfl, by decide, zz_in (i := 146) (by decide +kernel) (by decide +kernel), rfl, rfl⟩
theorem cv_W_79 : zz_CV "SegmentTreesLaw" 79 0 y_T_clearPath c_T_clearPath 1 (none) 0 := ⟨⟨_, _, rfl⟩, zz_in (i := 164) (by decide +kernel) (by decide +kernel), zz_in (i := 165) (by decide +kernel) (by decide +kernel), zz_in (i := 166) (by decide +kernel) (by decide +kernel), zz_in (i := 35) (by decide +kernel) (by decide +kernel), zz_in (i := 167) (by decide +kernel) (by decide +kernel), by decide, by decide, by decide +kernel⟩
theorem cv_T_118 : zz_CV "SegmentTrees" 118 4 y_P_forget c_P_forget 2 (none) 0 := ⟨⟨_, _, rfl⟩, zz_in (i := 168) (by decide +kernel) (by decide +kernel), zz_in (i := 169) (by decide +kernel) (by decide +kernel), zz_in (i := 170) (by decide +kernel) (by decide +kernel), zz_in (i := 36) (by decide +kernel) (by decide +kernel), zz_in (i := 171) (by decide +kernel) (by decide +kernel), by decide, by decide, by decide +kernel⟩
theorem cv_P_18 : zz_CV "SegmentTrees$Path" 18 3 y_L_forget c_L_forget 1 (none) 0 := ⟨⟨_, _, rfl⟩, zz_in (i := 172) (by decide +kernel) (by decide +kernel), zz_in (i := 173) (by decide +kernel) (by decide +kernel), zz_in (i := 174) (by decide +kernel) (by decide +kernel), zz_in (i := 37) (by decide +kernel) (by decide +kernel), zz_in (i := 175) (by decide +kernel) (by decide +kernel), by decide, by decide, by decide +kernel⟩
theorem cv_W_90 : zz_CV "SegmentTreesLaw" 90 0 y_T_unique c_T_unique 2 (some (.int)) 1 := ⟨⟨_, _, rfl⟩, zz_in (i := 176) (by decide +kernel) (by decide +kernel), zz_in (i := 177) (by decide +kernel) (by decide +kernel), zz_in (i := 178) (by decide +kernel) (by decide +kernel), zz_in (i := 35) (by decide +kernel) (by decide +kernel), zz_in (i := 179) (by decide +kernel) (by decide +kernel), by decide, by decide, by decide +kernel⟩
theorem cv_T_133 : zz_CV "SegmentTrees" 133 5 y_O_firstThatMeets c_O_firstThatMeets 5 (some ((.object "SegmentTrees$Segment"))) 3 := ⟨⟨_, _, rfl⟩, zz_in (i := 180) (by decide +kernel) (by decide +kernel), zz_in (i := 181) (by decide +kernel) (by decide +kernel), zz_in (i := 182) (by decide +kernel) (by decide +kernel), zz_in (i := 38) (by decide +kernel) (by decide +kernel), zz_in (i := 183) (by decide +kernel) (by decide +kernel), by decide, by decide, by decide +kernel⟩
theorem cv_O_41 : zz_CV "SegmentTrees$Order" 41 2 y_S_isBelow c_S_isBelow 2 (some (.boolean)) 1 := ⟨⟨_, _, rfl⟩, zz_in (i := 184) (by decide +kernel) (by decide +kernel), zz_in (i := 185) (by decide +kernel) (by decide +kernel), zz_in (i := 186) (by decide +kernel) (by decide +kernel), zz_in (i := 48) (by decide +kernel) (by decide +kernel), zz_in (i := 187) (by decide +kernel) (by decide +kernel), by decide, by decide, by decide +kernel⟩
theorem cv_S_52 : zz_CV "SegmentTrees$Segment" 52 2 y_S_isInTreeOf c_S_isInTreeOf 2 (some (.boolean)) 1 := ⟨⟨_, _, rfl⟩, zz_in (i := 188) (by decide +kernel) (by decide +kernel), zz_in (i := 189) (by decide +kernel) (by decide +kernel), zz_in (i := 190) (by decide +kernel) (by decide +kernel), zz_in (i := 48) (by decide +kernel) (by decide +kernel), zz_in (i := 191) (by decide +kernel) (by decide +kernel), by decide, by decide, by decide +kernel⟩
theorem cv_S_48 : zz_CV "SegmentTrees$Segment" 48 2 y_S_atLevel c_S_atLevel 4 (some ((.object "SegmentTrees$Segment"))) 1 := ⟨⟨_, _, rfl⟩, zz_in (i := 192) (by decide +kernel) (by decide +kernel), zz_in (i := 193) (by decide +kernel) (by decide +kernel), zz_in (i := 194) (by decide +kernel) (by decide +kernel), zz_in (i := 48) (by decide +kernel) (by decide +kernel), zz_in (i := 195) (by decide +kernel) (by decide +kernel), by decide, by decide, by decide +kernel⟩
theorem cv_O_45 : zz_CV "SegmentTrees$Order" 45 4 y_P_isMetBy c_P_isMetBy 3 (some (.boolean)) 1 := ⟨⟨_, _, rfl⟩, zz_in (i := 196) (by decide +kernel) (by decide +kernel), zz_in (i := 197) (by decide +kernel) (by decide +kernel), zz_in (i := 198) (by decide +kernel) (by decide +kernel), zz_in (i := 36) (by decide +kernel) (by decide +kernel), zz_in (i := 199) (by decide +kernel) (by decide +kernel), by decide, by decide, by decide +kernel⟩
theorem cv_P_35 : zz_CV "SegmentTrees$Path" 35 4 y_P_lowestStated c_P_lowestStated 2 (some (.int)) 0 := ⟨⟨_, _, rfl⟩, zz_in (i := 200) (by decide +kernel) (by decide +kernel), zz_in (i := 202) (by decide +kernel) (by decide +kernel), zz_in (i := 0) (by decide +kernel) (by decide +kernel), zz_in (i := 36) (by decide +kernel) (by decide +kernel), zz_in (i := 203) (by decide +kernel) (by decide +kernel), by decide, by decide, by decide +kernel⟩
theorem cv_P_49 : zz_CV "SegmentTrees$Path" 49 3 y_L_isStated c_L_isStated 1 (some (.boolean)) 0 := ⟨⟨_, _, rfl⟩, zz_in (i := 204) (by decide +kernel) (by decide +kernel), zz_in (i := 205) (by decide +kernel) (by decide +kernel), zz_in (i := 206) (by decide +kernel) (by decide +kernel), zz_in (i := 37) (by decide +kernel) (by decide +kernel), zz_in (i := 207) (by decide +kernel) (by decide +kernel), by decide, by decide, by decide +kernel⟩
theorem cv_P_45 : zz_CV "SegmentTrees$Path" 45 4 y_P_isMetDownTo c_P_isMetDownTo 5 (some (.boolean)) 2 := ⟨⟨_, _, rfl⟩, zz_in (i := 208) (by decide +kernel) (by decide +kernel), zz_in (i := 209) (by decide +kernel) (by decide +kernel), zz_in (i := 210) (by decide +kernel) (by decide +kernel), zz_in (i := 36) (by decide +kernel) (by decide +kernel), zz_in (i := 211) (by decide +kernel) (by decide +kernel), by decide, by decide, by decide +kernel⟩
theorem cv_P_53 : zz_CV "SegmentTrees$Path" 53 2 y_S_atLevel c_S_atLevel 4 (some ((.object "SegmentTrees$Segment"))) 1 := ⟨⟨_, _, rfl⟩, zz_in (i := 212) (by decide +kernel) (by decide +kernel), zz_in (i := 193) (by decide +kernel) (by decide +kernel), zz_in (i := 194) (by decide +kernel) (by decide +kernel), zz_in (i := 48) (by decide +kernel) (by decide +kernel), zz_in (i := 195) (by decide +kernel) (by decide +kernel), by decide, by decide, by decide +kernel⟩
theorem cv_P_57 : zz_CV "SegmentTrees$Path" 57 3 y_L_isMetBy c_L_isMetBy 3 (some (.boolean)) 1 := ⟨⟨_, _, rfl⟩, zz_in (i := 213) (by decide +kernel) (by decide +kernel), zz_in (i := 214) (by decide +kernel) (by decide +kernel), zz_in (i := 215) (by decide +kernel) (by decide +kernel), zz_in (i := 37) (by decide +kernel) (by decide +kernel), zz_in (i := 216) (by decide +kernel) (by decide +kernel), by decide, by decide, by decide +kernel⟩
theorem cs_L_37 : zz_CS "SegmentTrees$PathLevel" 37 y_L_compares c_L_compares 3 (some (.boolean)) 3 := ⟨zz_in (i := 217) (by decide +kernel) (by decide +kernel), zz_in (i := 218) (by decide +kernel) (by decide +kernel), zz_in (i := 37) (by decide +kernel) (by decide +kernel), zz_in (i := 219) (by decide +kernel) (by decide +kernel), rfl, by decide, by decide, by decide +kernel⟩
theorem cv_T_137 : zz_CV "SegmentTrees" 137 0 y_T_got c_T_got 3 (some (.int)) 2 := ⟨⟨_, _, rfl⟩, zz_in (i := 220) (by decide +kernel) (by decide +kernel), zz_in (i := 222) (by decide +kernel) (by decide +kernel), zz_in (i := 1) (by decide +kernel) (by decide +kernel), zz_in (i := 35) (by decide +kernel) (by decide +kernel), zz_in (i := 223) (by decide +kernel) (by decide +kernel), by decide, by decide, by decide +kernel⟩
theorem cv_T_211 : zz_CV "SegmentTrees" 211 6 y_Q_standAt c_Q_standAt 2 (none) 1 := ⟨⟨_, _, rfl⟩, zz_in (i := 224) (by decide +kernel) (by decide +kernel), zz_in (i := 225) (by decide +kernel) (by decide +kernel), zz_in (i := 226) (by decide +kernel) (by decide +kernel), zz_in (i := 39) (by decide +kernel) (by decide +kernel), zz_in (i := 227) (by decide +kernel) (by decide +kernel), by decide, by decide, by decide +kernel⟩
theorem cv_W_94 : zz_CV "SegmentTreesLaw" 94 0 y_T_next c_T_next 2 (some (.int)) 1 := ⟨⟨_, _, rfl⟩, zz_in (i := 228) (by decide +kernel) (by decide +kernel), zz_in (i := 229) (by decide +kernel) (by decide +kernel), zz_in (i := 230) (by decide +kernel) (by decide +kernel), zz_in (i := 35) (by decide +kernel) (by decide +kernel), zz_in (i := 231) (by decide +kernel) (by decide +kernel), by decide, by decide, by decide +kernel⟩
theorem cv_T_141 : zz_CV "SegmentTrees" 141 6 y_Q_firstBehind c_Q_firstBehind 2 (some (.int)) 1 := ⟨⟨_, _, rfl⟩, zz_in (i := 232) (by decide +kernel) (by decide +kernel), zz_in (i := 233) (by decide +kernel) (by decide +kernel), zz_in (i := 234) (by decide +kernel) (by decide +kernel), zz_in (i := 39) (by decide +kernel) (by decide +kernel), zz_in (i := 235) (by decide +kernel) (by decide +kernel), by decide, by decide, by decide +kernel⟩
theorem cv_Q_30 : zz_CV "SegmentTrees$Position" 30 6 y_Q_before c_Q_before 2 (some (.int)) 1 := ⟨⟨_, _, rfl⟩, zz_in (i := 236) (by decide +kernel) (by decide +kernel), zz_in (i := 237) (by decide +kernel) (by decide +kernel), zz_in (i := 238) (by decide +kernel) (by decide +kernel), zz_in (i := 39) (by decide +kernel) (by decide +kernel), zz_in (i := 239) (by decide +kernel) (by decide +kernel), by decide, by decide, by decide +kernel⟩
theorem cv_Q_20 : zz_CV "SegmentTrees$Position" 20 5 y_O_indexOf c_O_indexOf 3 (some (.int)) 1 := ⟨⟨_, _, rfl⟩, zz_in (i := 240) (by decide +kernel) (by decide +kernel), zz_in (i := 241) (by decide +kernel) (by decide +kernel), zz_in (i := 242) (by decide +kernel) (by decide +kernel), zz_in (i := 38) (by decide +kernel) (by decide +kernel), zz_in (i := 243) (by decide +kernel) (by decide +kernel), by decide, by decide, by decide +kernel⟩
theorem cv_W_106 : zz_CV "SegmentTreesLaw" 106 0 y_T_at c_T_at 1 (some (.int)) 0 := ⟨⟨_, _, rfl⟩, zz_in (i := 244) (by decide +kernel) (by decide +kernel), zz_in (i := 245) (by decide +kernel) (by decide +kernel), zz_in (i := 246) (by decide +kernel) (by decide +kernel), zz_in (i := 35) (by decide +kernel) (by decide +kernel), zz_in (i := 247) (by decide +kernel) (by decide +kernel), by decide, by decide, by decide +kernel⟩
theorem cv_T_150 : zz_CV "SegmentTrees" 150 6 y_Q_standing c_Q_standing 1 (some ((.object "SegmentTrees$Segment"))) 0 := ⟨⟨_, _, rfl⟩, zz_in (i := 248) (by decide +kernel) (by decide +kernel), zz_in (i := 249) (by decide +kernel) (by decide +kernel), zz_in (i := 250) (by decide +kernel) (by decide +kernel), zz_in (i := 39) (by decide +kernel) (by decide +kernel), zz_in (i := 251) (by decide +kernel) (by decide +kernel), by decide, by decide, by decide +kernel⟩
theorem cs_T_161 : zz_CS "SegmentTrees" 161 y_T_numberOf c_T_numberOf 1 (some (.int)) 1 := ⟨zz_in (i := 252) (by decide +kernel) (by decide +kernel), zz_in (i := 253) (by decide +kernel) (by decide +kernel), zz_in (i := 35) (by decide +kernel) (by decide +kernel), zz_in (i := 254) (by decide +kernel) (by decide +kernel), rfl, by decide, by decide, by decide +kernel⟩
theorem cv_W_110 : zz_CV "SegmentTreesLaw" 110 0 y_T_place c_T_place 1 (some (.int)) 0 := ⟨⟨_, _, rfl⟩, zz_in (i := 255) (by decide +kernel) (by decide +kernel), zz_in (i := 256) (by decide +kernel) (by decide +kernel), zz_in (i := 257) (by decide +kernel) (by decide +kernel), zz_in (i := 35) (by decide +kernel) (by decide +kernel), zz_in (i := 258) (by decide +kernel) (by decide +kernel), by decide, by decide, by decide +kernel⟩
theorem cv_T_165 : zz_CV "SegmentTrees" 165 6 y_Q_before c_Q_before 2 (some (.int)) 1 := ⟨⟨_, _, rfl⟩, zz_in (i := 259) (by decide +kernel) (by decide +kernel), zz_in (i := 237) (by decide +kernel) (by decide +kernel), zz_in (i := 238) (by decide +kernel) (by decide +kernel), zz_in (i := 39) (by decide +kernel) (by decide +kernel), zz_in (i := 239) (by decide +kernel) (by decide +kernel), by decide, by decide, by decide +kernel⟩
theorem cv_W_131 : zz_CV "SegmentTreesLaw" 131 0 y_T_count c_T_count 1 (some (.int)) 0 := ⟨⟨_, _, rfl⟩, zz_in (i := 260) (by decide +kernel) (by decide +kernel), zz_in (i := 261) (by decide +kernel) (by decide +kernel), zz_in (i := 262) (by decide +kernel) (by decide +kernel), zz_in (i := 35) (by decide +kernel) (by decide +kernel), zz_in (i := 263) (by decide +kernel) (by decide +kernel), by decide, by decide, by decide +kernel⟩
theorem cv_W_135 : zz_CV "SegmentTreesLaw" 135 0 y_T_segment c_T_segment 4 (some (.int)) 2 := ⟨⟨_, _, rfl⟩, zz_in (i := 264) (by decide +kernel) (by decide +kernel), zz_in (i := 265) (by decide +kernel) (by decide +kernel), zz_in (i := 266) (by decide +kernel) (by decide +kernel), zz_in (i := 35) (by decide +kernel) (by decide +kernel), zz_in (i := 267) (by decide +kernel) (by decide +kernel), by decide, by decide, by decide +kernel⟩
theorem cv_T_251 : zz_CV "SegmentTrees" 251 5 y_O_withNumber c_O_withNumber 3 (some ((.object "SegmentTrees$Segment"))) 1 := ⟨⟨_, _, rfl⟩, zz_in (i := 268) (by decide +kernel) (by decide +kernel), zz_in (i := 269) (by decide +kernel) (by decide +kernel), zz_in (i := 270) (by decide +kernel) (by decide +kernel), zz_in (i := 38) (by decide +kernel) (by decide +kernel), zz_in (i := 271) (by decide +kernel) (by decide +kernel), by decide, by decide, by decide +kernel⟩
theorem cs_T_260 : zz_CS "SegmentTrees" 260 y_T_wordAsked c_T_wordAsked 2 (some (.int)) 2 := ⟨zz_in (i := 272) (by decide +kernel) (by decide +kernel), zz_in (i := 273) (by decide +kernel) (by decide +kernel), zz_in (i := 35) (by decide +kernel) (by decide +kernel), zz_in (i := 274) (by decide +kernel) (by decide +kernel), rfl, by decide, by decide, by decide +kernel⟩
theorem cv_T_108 : zz_CV "SegmentTrees" 108 1 y_K_hasWord c_K_hasWord 2 (some (.boolean)) 1 := ⟨⟨_, _, rfl⟩, zz_in (i := 275) (by decide +kernel) (by decide +kernel), zz_in (i := 276) (by decide +kernel) (by decide +kernel), zz_in (i := 277) (by decide +kernel) (by decide +kernel), zz_in (i := 46) (by decide +kernel) (by decide +kernel), zz_in (i := 278) (by decide +kernel) (by decide +kernel), by decide, by decide, by decide +kernel⟩
theorem cv_W_7 : zz_CV "SegmentTreesLaw" 7 0 y_T_type c_T_type 8 (none) 6 := ⟨⟨_, _, rfl⟩, zz_in (i := 284) (by decide +kernel) (by decide +kernel), zz_in (i := 285) (by decide +kernel) (by decide +kernel), zz_in (i := 286) (by decide +kernel) (by decide +kernel), zz_in (i := 35) (by decide +kernel) (by decide +kernel), zz_in (i := 287) (by decide +kernel) (by decide +kernel), by decide, by decide, by decide +kernel⟩
theorem cv_T_51 : zz_CV "SegmentTrees" 51 0 y_T_kindOf c_T_kindOf 2 (some ((.object "SegmentTrees$Kind"))) 1 := ⟨⟨_, _, rfl⟩, zz_in (i := 356) (by decide +kernel) (by decide +kernel), zz_in (i := 358) (by decide +kernel) (by decide +kernel), zz_in (i := 3) (by decide +kernel) (by decide +kernel), zz_in (i := 35) (by decide +kernel) (by decide +kernel), zz_in (i := 359) (by decide +kernel) (by decide +kernel), by decide, by decide, by decide +kernel⟩
theorem cv_T_72 : zz_CV "SegmentTrees" 72 0 y_T_refuseAfterInsert c_T_refuseAfterInsert 1 (none) 0 := ⟨⟨_, _, rfl⟩, zz_in (i := 380) (by decide +kernel) (by decide +kernel), zz_in (i := 382) (by decide +kernel) (by decide +kernel), zz_in (i := 4) (by decide +kernel) (by decide +kernel), zz_in (i := 35) (by decide +kernel) (by decide +kernel), zz_in (i := 383) (by decide +kernel) (by decide +kernel), by decide, by decide, by decide +kernel⟩
theorem ci_T_75 : zz_CI "SegmentTrees" 75 1 y_K_init c_K_init 7 6 := ⟨⟨_, _, rfl⟩, zz_in (i := 386) (by decide +kernel) (by decide +kernel), zz_in (i := 387) (by decide +kernel) (by decide +kernel), zz_in (i := 46) (by decide +kernel) (by decide +kernel), zz_in (i := 388) (by decide +kernel) (by decide +kernel), rfl, by decide, by decide, by decide +kernel⟩
theorem gf_K_9 : zz_GF "SegmentTrees$Kind" 9 1 0 none true := ⟨_, _, _, rfl, by decide, zz_in (i := 390) (by decide +kernel) (by decide +kernel), rfl, rfl⟩
theorem gf_S_63 : zz_GF "SegmentTrees$Segment" 63 1 0 none true := ⟨_, _, _, rfl, by decide, zz_in (i := 391) (by decide +kernel) (by decide +kernel), rfl, rfl⟩
theorem gf_T_255 : zz_GF "SegmentTrees" 255 1 0 none true := ⟨_, _, _, rfl, by decide, zz_in (i := 392) (by decide +kernel) (by decide +kernel), rfl, rfl⟩
theorem gf_K_15 : zz_GF "SegmentTrees$Kind" 15 1 1 (some 1) true := ⟨_, _, _, rfl, by decide, zz_in (i := 393) (by decide +kernel) (by decide +kernel), rfl, rfl⟩
theorem gf_T_103 : zz_GF "SegmentTrees" 103 1 1 (some 1) true := ⟨_, _, _, rfl, by decide, zz_in (i := 394) (by decide +kernel) (by decide +kernel), rfl, rfl⟩
theorem gf_K_19 : zz_GF "SegmentTrees$Kind" 19 1 2 none true := ⟨_, _, _, rfl, by decide, zz_in (i := 395) (by decide +kernel) (by decide +kernel), rfl, rfl⟩
theorem gf_T_57 : zz_GF "SegmentTrees" 57 1 2 none true := ⟨_, _, _, rfl, by decide, zz_in (i := 396) (by decide +kernel) (by decide +kernel), rfl, rfl⟩
theorem gf_P_21 : zz_GF "SegmentTrees$Path" 21 1 2 none true := ⟨_, _, _, rfl, by decide, zz_in (i := 397) (by decide +kernel) (by decide +kernel), rfl, rfl⟩
theorem gf_S_45 : zz_GF "SegmentTrees$Segment" 45 1 2 none true := ⟨_, _, _, rfl, by decide, zz_in (i := 398) (by decide +kernel) (by decide +kernel), rfl, rfl⟩
theorem gf_O_53 : zz_GF "SegmentTrees$Order" 53 1 2 none true := ⟨_, _, _, rfl, by decide, zz_in (i := 399) (by decide +kernel) (by decide +kernel), rfl, rfl⟩
theorem gf_K_22 : zz_GF "SegmentTrees$Kind" 22 1 3 none true := ⟨_, _, _, rfl, by decide, zz_in (i := 400) (by decide +kernel) (by decide +kernel), rfl, rfl⟩
theorem gf_S_27 : zz_GF "SegmentTrees$Segment" 27 1 3 none true := ⟨_, _, _, rfl, by decide, zz_in (i := 401) (by decide +kernel) (by decide +kernel), rfl, rfl⟩
theorem gf_T_83 : zz_GF "SegmentTrees" 83 1 3 none true := ⟨_, _, _, rfl, by decide, zz_in (i := 402) (by decide +kernel) (by decide +kernel), rfl, rfl⟩
theorem gf_K_25 : zz_GF "SegmentTrees$Kind" 25 1 4 none true := ⟨_, _, _, rfl, by decide, zz_in (i := 403) (by decide +kernel) (by decide +kernel), rfl, rfl⟩
theorem gf_S_42 : zz_GF "SegmentTrees$Segment" 42 1 4 none true := ⟨_, _, _, rfl, by decide, zz_in (i := 404) (by decide +kernel) (by decide +kernel), rfl, rfl⟩
theorem gf_T_86 : zz_GF "SegmentTrees" 86 1 4 none true := ⟨_, _, _, rfl, by decide, zz_in (i := 405) (by decide +kernel) (by decide +kernel), rfl, rfl⟩
theorem gf_K_28 : zz_GF "SegmentTrees$Kind" 28 1 5 none true := ⟨_, _, _, rfl, by decide, zz_in (i := 406) (by decide +kernel) (by decide +kernel), rfl, rfl⟩
theorem gf_T_183 : zz_GF "SegmentTrees" 183 1 5 none true := ⟨_, _, _, rfl, by decide, zz_in (i := 407) (by decide +kernel) (by decide +kernel), rfl, rfl⟩
theorem gf_K_32 : zz_GF "SegmentTrees$Kind" 32 1 6 none true := ⟨_, _, _, rfl, by decide, zz_in (i := 408) (by decide +kernel) (by decide +kernel), rfl, rfl⟩
theorem gf_S_66 : zz_GF "SegmentTrees$Segment" 66 1 6 none true := ⟨_, _, _, rfl, by decide, zz_in (i := 409) (by decide +kernel) (by decide +kernel), rfl, rfl⟩
theorem gf_T_97 : zz_GF "SegmentTrees" 97 1 7 (some 1) false := ⟨_, _, _, rfl, by decide, zz_in (i := 410) (by decide +kernel) (by decide +kernel), rfl, rfl⟩
theorem gf_O_70 : zz_GF "SegmentTrees$Order" 70 1 7 (some 1) false := ⟨_, _, _, rfl, by decide, zz_in (i := 411) (by decide +kernel) (by decide +kernel), rfl, rfl⟩
theorem cv_W_17 : zz_CV "SegmentTreesLaw" 17 0 y_T_twins c_T_twins 5 (none) 2 := ⟨⟨_, _, rfl⟩, zz_in (i := 432) (by decide +kernel) (by decide +kernel), zz_in (i := 433) (by decide +kernel) (by decide +kernel), zz_in (i := 434) (by decide +kernel) (by decide +kernel), zz_in (i := 35) (by decide +kernel) (by decide +kernel), zz_in (i := 435) (by decide +kernel) (by decide +kernel), by decide, by decide, by decide +kernel⟩
theorem cv_T_78 : zz_CV "SegmentTrees" 78 0 y_T_declaredKind c_T_declaredKind 3 (some ((.object "SegmentTrees$Kind"))) 1 := ⟨⟨_, _, rfl⟩, zz_in (i := 436) (by decide +kernel) (by decide +kernel), zz_in (i := 438) (by decide +kernel) (by decide +kernel), zz_in (i := 5) (by decide +kernel) (by decide +kernel), zz_in (i := 35) (by decide +kernel) (by decide +kernel), zz_in (i := 439) (by decide +kernel) (by decide +kernel), by decide, by decide, by decide +kernel⟩
theorem cv_T_91 : zz_CV "SegmentTrees" 91 1 y_K_hasSequence c_K_hasSequence 1 (some (.boolean)) 0 := ⟨⟨_, _, rfl⟩, zz_in (i := 443) (by decide +kernel) (by decide +kernel), zz_in (i := 444) (by decide +kernel) (by decide +kernel), zz_in (i := 445) (by decide +kernel) (by decide +kernel), zz_in (i := 46) (by decide +kernel) (by decide +kernel), zz_in (i := 446) (by decide +kernel) (by decide +kernel), by decide, by decide, by decide +kernel⟩
theorem cv_W_21 : zz_CV "SegmentTreesLaw" 21 0 y_T_second c_T_second 4 (none) 2 := ⟨⟨_, _, rfl⟩, zz_in (i := 452) (by decide +kernel) (by decide +kernel), zz_in (i := 453) (by decide +kernel) (by decide +kernel), zz_in (i := 454) (by decide +kernel) (by decide +kernel), zz_in (i := 35) (by decide +kernel) (by decide +kernel), zz_in (i := 455) (by decide +kernel) (by decide +kernel), by decide, by decide, by decide +kernel⟩
theorem cv_T_114 : zz_CV "SegmentTrees" 114 5 y_O_nameSecond c_O_nameSecond 3 (none) 2 := ⟨⟨_, _, rfl⟩, zz_in (i := 458) (by decide +kernel) (by decide +kernel), zz_in (i := 459) (by decide +kernel) (by decide +kernel), zz_in (i := 460) (by decide +kernel) (by decide +kernel), zz_in (i := 38) (by decide +kernel) (by decide +kernel), zz_in (i := 461) (by decide +kernel) (by decide +kernel), by decide, by decide, by decide +kernel⟩
theorem cv_W_24 : zz_CV "SegmentTreesLaw" 24 0 y_T_path c_T_path 6 (some (.boolean)) 4 := ⟨⟨_, _, rfl⟩, zz_in (i := 465) (by decide +kernel) (by decide +kernel), zz_in (i := 466) (by decide +kernel) (by decide +kernel), zz_in (i := 467) (by decide +kernel) (by decide +kernel), zz_in (i := 35) (by decide +kernel) (by decide +kernel), zz_in (i := 468) (by decide +kernel) (by decide +kernel), by decide, by decide, by decide +kernel⟩
theorem cv_T_123 : zz_CV "SegmentTrees" 123 4 y_P_state c_P_state 2 (some (.boolean)) 1 := ⟨⟨_, _, rfl⟩, zz_in (i := 470) (by decide +kernel) (by decide +kernel), zz_in (i := 471) (by decide +kernel) (by decide +kernel), zz_in (i := 472) (by decide +kernel) (by decide +kernel), zz_in (i := 36) (by decide +kernel) (by decide +kernel), zz_in (i := 473) (by decide +kernel) (by decide +kernel), by decide, by decide, by decide +kernel⟩
theorem cv_P_27 : zz_CV "SegmentTrees$Path" 27 3 y_L_state c_L_state 2 (some (.boolean)) 1 := ⟨⟨_, _, rfl⟩, zz_in (i := 474) (by decide +kernel) (by decide +kernel), zz_in (i := 475) (by decide +kernel) (by decide +kernel), zz_in (i := 476) (by decide +kernel) (by decide +kernel), zz_in (i := 37) (by decide +kernel) (by decide +kernel), zz_in (i := 477) (by decide +kernel) (by decide +kernel), by decide, by decide, by decide +kernel⟩
theorem cv_T_127 : zz_CV "SegmentTrees" 127 4 y_P_addCondition c_P_addCondition 5 (some (.boolean)) 4 := ⟨⟨_, _, rfl⟩, zz_in (i := 478) (by decide +kernel) (by decide +kernel), zz_in (i := 479) (by decide +kernel) (by decide +kernel), zz_in (i := 480) (by decide +kernel) (by decide +kernel), zz_in (i := 36) (by decide +kernel) (by decide +kernel), zz_in (i := 481) (by decide +kernel) (by decide +kernel), by decide, by decide, by decide +kernel⟩
theorem cv_P_31 : zz_CV "SegmentTrees$Path" 31 3 y_L_addCondition c_L_addCondition 5 (some (.boolean)) 4 := ⟨⟨_, _, rfl⟩, zz_in (i := 482) (by decide +kernel) (by decide +kernel), zz_in (i := 483) (by decide +kernel) (by decide +kernel), zz_in (i := 484) (by decide +kernel) (by decide +kernel), zz_in (i := 37) (by decide +kernel) (by decide +kernel), zz_in (i := 485) (by decide +kernel) (by decide +kernel), by decide, by decide, by decide +kernel⟩
theorem cv_L_29 : zz_CV "SegmentTrees$PathLevel" 29 3 y_L_state c_L_state 2 (some (.boolean)) 1 := ⟨⟨_, _, rfl⟩, zz_in (i := 486) (by decide +kernel) (by decide +kernel), zz_in (i := 475) (by decide +kernel) (by decide +kernel), zz_in (i := 476) (by decide +kernel) (by decide +kernel), zz_in (i := 37) (by decide +kernel) (by decide +kernel), zz_in (i := 477) (by decide +kernel) (by decide +kernel), by decide, by decide, by decide +kernel⟩
theorem cv_W_28 : zz_CV "SegmentTreesLaw" 28 0 y_T_work c_T_work 3 (none) 2 := ⟨⟨_, _, rfl⟩, zz_in (i := 490) (by decide +kernel) (by decide +kernel), zz_in (i := 491) (by decide +kernel) (by decide +kernel), zz_in (i := 492) (by decide +kernel) (by decide +kernel), zz_in (i := 35) (by decide +kernel) (by decide +kernel), zz_in (i := 493) (by decide +kernel) (by decide +kernel), by decide, by decide, by decide +kernel⟩
theorem cv_W_31 : zz_CV "SegmentTreesLaw" 31 0 y_T_within c_T_within 2 (some (.int)) 1 := ⟨⟨_, _, rfl⟩, zz_in (i := 498) (by decide +kernel) (by decide +kernel), zz_in (i := 499) (by decide +kernel) (by decide +kernel), zz_in (i := 500) (by decide +kernel) (by decide +kernel), zz_in (i := 35) (by decide +kernel) (by decide +kernel), zz_in (i := 501) (by decide +kernel) (by decide +kernel), by decide, by decide, by decide +kernel⟩
theorem cv_W_35 : zz_CV "SegmentTreesLaw" 35 0 y_T_fix c_T_fix 2 (some (.int)) 0 := ⟨⟨_, _, rfl⟩, zz_in (i := 506) (by decide +kernel) (by decide +kernel), zz_in (i := 507) (by decide +kernel) (by decide +kernel), zz_in (i := 508) (by decide +kernel) (by decide +kernel), zz_in (i := 35) (by decide +kernel) (by decide +kernel), zz_in (i := 509) (by decide +kernel) (by decide +kernel), by decide, by decide, by decide +kernel⟩
theorem cv_W_39 : zz_CV "SegmentTreesLaw" 39 0 y_T_word c_T_word 3 (some (.int)) 1 := ⟨⟨_, _, rfl⟩, zz_in (i := 515) (by decide +kernel) (by decide +kernel), zz_in (i := 516) (by decide +kernel) (by decide +kernel), zz_in (i := 517) (by decide +kernel) (by decide +kernel), zz_in (i := 35) (by decide +kernel) (by decide +kernel), zz_in (i := 518) (by decide +kernel) (by decide +kernel), by decide, by decide, by decide +kernel⟩
theorem cv_W_45 : zz_CV "SegmentTreesLaw" 45 0 y_T_insert c_T_insert 5 (some (.int)) 1 := ⟨⟨_, _, rfl⟩, zz_in (i := 538) (by decide +kernel) (by decide +kernel), zz_in (i := 539) (by decide +kernel) (by decide +kernel), zz_in (i := 540) (by decide +kernel) (by decide +kernel), zz_in (i := 35) (by decide +kernel) (by decide +kernel), zz_in (i := 541) (by decide +kernel) (by decide +kernel), by decide, by decide, by decide +kernel⟩
theorem cv_T_179 : zz_CV "SegmentTrees" 179 5 y_O_firstParent c_O_firstParent 4 (some ((.object "SegmentTrees$Segment"))) 2 := ⟨⟨_, _, rfl⟩, zz_in (i := 542) (by decide +kernel) (by decide +kernel), zz_in (i := 543) (by decide +kernel) (by decide +kernel), zz_in (i := 544) (by decide +kernel) (by decide +kernel), zz_in (i := 38) (by decide +kernel) (by decide +kernel), zz_in (i := 545) (by decide +kernel) (by decide +kernel), by decide, by decide, by decide +kernel⟩
theorem cv_O_58 : zz_CV "SegmentTrees$Order" 58 4 y_P_isMetDownTo c_P_isMetDownTo 5 (some (.boolean)) 2 := ⟨⟨_, _, rfl⟩, zz_in (i := 546) (by decide +kernel) (by decide +kernel), zz_in (i := 209) (by decide +kernel) (by decide +kernel), zz_in (i := 210) (by decide +kernel) (by decide +kernel), zz_in (i := 36) (by decide +kernel) (by decide +kernel), zz_in (i := 211) (by decide +kernel) (by decide +kernel), by decide, by decide, by decide +kernel⟩
theorem cv_T_187 : zz_CV "SegmentTrees" 187 5 y_O_hasSibling c_O_hasSibling 6 (some (.boolean)) 3 := ⟨⟨_, _, rfl⟩, zz_in (i := 547) (by decide +kernel) (by decide +kernel), zz_in (i := 548) (by decide +kernel) (by decide +kernel), zz_in (i := 549) (by decide +kernel) (by decide +kernel), zz_in (i := 38) (by decide +kernel) (by decide +kernel), zz_in (i := 550) (by decide +kernel) (by decide +kernel), by decide, by decide, by decide +kernel⟩
theorem cv_O_66 : zz_CV "SegmentTrees$Order" 66 2 y_S_hasSequenceOf c_S_hasSequenceOf 2 (some (.boolean)) 1 := ⟨⟨_, _, rfl⟩, zz_in (i := 551) (by decide +kernel) (by decide +kernel), zz_in (i := 552) (by decide +kernel) (by decide +kernel), zz_in (i := 553) (by decide +kernel) (by decide +kernel), zz_in (i := 48) (by decide +kernel) (by decide +kernel), zz_in (i := 554) (by decide +kernel) (by decide +kernel), by decide, by decide, by decide +kernel⟩
theorem cv_S_38 : zz_CV "SegmentTrees$Segment" 38 1 y_K_hasSequence c_K_hasSequence 1 (some (.boolean)) 0 := ⟨⟨_, _, rfl⟩, zz_in (i := 555) (by decide +kernel) (by decide +kernel), zz_in (i := 444) (by decide +kernel) (by decide +kernel), zz_in (i := 445) (by decide +kernel) (by decide +kernel), zz_in (i := 46) (by decide +kernel) (by decide +kernel), zz_in (i := 446) (by decide +kernel) (by decide +kernel), by decide, by decide, by decide +kernel⟩
theorem ci_T_197 : zz_CI "SegmentTrees" 197 2 y_S_init c_S_init 4 3 := ⟨⟨_, _, rfl⟩, zz_in (i := 558) (by decide +kernel) (by decide +kernel), zz_in (i := 559) (by decide +kernel) (by decide +kernel), zz_in (i := 48) (by decide +kernel) (by decide +kernel), zz_in (i := 560) (by decide +kernel) (by decide +kernel), rfl, by decide, by decide, by decide +kernel⟩
theorem gf_S_15 : zz_GF "SegmentTrees$Segment" 15 2 0 none true := ⟨_, _, _, rfl, by decide, zz_in (i := 562) (by decide +kernel) (by decide +kernel), rfl, rfl⟩
theorem gf_O_38 : zz_GF "SegmentTrees$Order" 38 2 0 none true := ⟨_, _, _, rfl, by decide, zz_in (i := 563) (by decide +kernel) (by decide +kernel), rfl, rfl⟩
theorem gf_T_156 : zz_GF "SegmentTrees" 156 2 0 none true := ⟨_, _, _, rfl, by decide, zz_in (i := 564) (by decide +kernel) (by decide +kernel), rfl, rfl⟩
theorem gf_S_19 : zz_GF "SegmentTrees$Segment" 19 2 1 (some 1) true := ⟨_, _, _, rfl, by decide, zz_in (i := 565) (by decide +kernel) (by decide +kernel), rfl, rfl⟩
theorem gf_P_39 : zz_GF "SegmentTrees$Path" 39 2 1 (some 1) true := ⟨_, _, _, rfl, by decide, zz_in (i := 566) (by decide +kernel) (by decide +kernel), rfl, rfl⟩
theorem gf_L_33 : zz_GF "SegmentTrees$PathLevel" 33 2 1 (some 1) true := ⟨_, _, _, rfl, by decide, zz_in (i := 567) (by decide +kernel) (by decide +kernel), rfl, rfl⟩
theorem gf_O_50 : zz_GF "SegmentTrees$Order" 50 2 1 (some 1) true := ⟨_, _, _, rfl, by decide, zz_in (i := 568) (by decide +kernel) (by decide +kernel), rfl, rfl⟩
theorem gf_T_168 : zz_GF "SegmentTrees" 168 2 1 (some 1) true := ⟨_, _, _, rfl, by decide, zz_in (i := 569) (by decide +kernel) (by decide +kernel), rfl, rfl⟩
theorem gf_S_23 : zz_GF "SegmentTrees$Segment" 23 2 2 (some 2) true := ⟨_, _, _, rfl, by decide, zz_in (i := 570) (by decide +kernel) (by decide +kernel), rfl, rfl⟩
theorem gf_O_62 : zz_GF "SegmentTrees$Order" 62 2 2 (some 2) true := ⟨_, _, _, rfl, by decide, zz_in (i := 571) (by decide +kernel) (by decide +kernel), rfl, rfl⟩
theorem gf_T_258 : zz_GF "SegmentTrees" 258 2 2 (some 2) true := ⟨_, _, _, rfl, by decide, zz_in (i := 572) (by decide +kernel) (by decide +kernel), rfl, rfl⟩
theorem gf_S_9 : zz_GF "SegmentTrees$Segment" 9 2 3 (some 90) true := ⟨_, _, _, rfl, by decide, zz_in (i := 573) (by decide +kernel) (by decide +kernel), rfl, rfl⟩
theorem gf_L_36 : zz_GF "SegmentTrees$PathLevel" 36 2 3 (some 90) true := ⟨_, _, _, rfl, by decide, zz_in (i := 574) (by decide +kernel) (by decide +kernel), rfl, rfl⟩
theorem gf_O_75 : zz_GF "SegmentTrees$Order" 75 2 3 (some 90) true := ⟨_, _, _, rfl, by decide, zz_in (i := 575) (by decide +kernel) (by decide +kernel), rfl, rfl⟩
theorem gf_T_176 : zz_GF "SegmentTrees" 176 2 3 (some 90) true := ⟨_, _, _, rfl, by decide, zz_in (i := 576) (by decide +kernel) (by decide +kernel), rfl, rfl⟩
theorem gf_O_73 : zz_GF "SegmentTrees$Order" 73 2 4 (some 2) false := ⟨_, _, _, rfl, by decide, zz_in (i := 577) (by decide +kernel) (by decide +kernel), rfl, rfl⟩
theorem gf_T_220 : zz_GF "SegmentTrees" 220 2 4 (some 2) false := ⟨_, _, _, rfl, by decide, zz_in (i := 578) (by decide +kernel) (by decide +kernel), rfl, rfl⟩
theorem gf_S_56 : zz_GF "SegmentTrees$Segment" 56 2 5 none false := ⟨_, _, _, rfl, by decide, zz_in (i := 579) (by decide +kernel) (by decide +kernel), rfl, rfl⟩
theorem gf_S_60 : zz_GF "SegmentTrees$Segment" 60 2 6 none false := ⟨_, _, _, rfl, by decide, zz_in (i := 580) (by decide +kernel) (by decide +kernel), rfl, rfl⟩
theorem cv_T_200 : zz_CV "SegmentTrees" 200 2 y_S_takeWords c_S_takeWords 2 (none) 1 := ⟨⟨_, _, rfl⟩, zz_in (i := 596) (by decide +kernel) (by decide +kernel), zz_in (i := 597) (by decide +kernel) (by decide +kernel), zz_in (i := 598) (by decide +kernel) (by decide +kernel), zz_in (i := 48) (by decide +kernel) (by decide +kernel), zz_in (i := 599) (by decide +kernel) (by decide +kernel), by decide, by decide, by decide +kernel⟩
theorem cv_T_204 : zz_CV "SegmentTrees" 204 0 y_T_joinTwin c_T_joinTwin 3 (none) 1 := ⟨⟨_, _, rfl⟩, zz_in (i := 603) (by decide +kernel) (by decide +kernel), zz_in (i := 605) (by decide +kernel) (by decide +kernel), zz_in (i := 6) (by decide +kernel) (by decide +kernel), zz_in (i := 35) (by decide +kernel) (by decide +kernel), zz_in (i := 606) (by decide +kernel) (by decide +kernel), by decide, by decide, by decide +kernel⟩
theorem cv_T_268 : zz_CV "SegmentTrees" 268 5 y_O_freeTwinFor c_O_freeTwinFor 5 (some ((.object "SegmentTrees$Segment"))) 1 := ⟨⟨_, _, rfl⟩, zz_in (i := 607) (by decide +kernel) (by decide +kernel), zz_in (i := 608) (by decide +kernel) (by decide +kernel), zz_in (i := 609) (by decide +kernel) (by decide +kernel), zz_in (i := 38) (by decide +kernel) (by decide +kernel), zz_in (i := 610) (by decide +kernel) (by decide +kernel), by decide, by decide, by decide +kernel⟩
theorem cv_T_208 : zz_CV "SegmentTrees" 208 5 y_O_enter c_O_enter 4 (none) 1 := ⟨⟨_, _, rfl⟩, zz_in (i := 611) (by decide +kernel) (by decide +kernel), zz_in (i := 612) (by decide +kernel) (by decide +kernel), zz_in (i := 613) (by decide +kernel) (by decide +kernel), zz_in (i := 38) (by decide +kernel) (by decide +kernel), zz_in (i := 614) (by decide +kernel) (by decide +kernel), by decide, by decide, by decide +kernel⟩
theorem cv_O_79 : zz_CV "SegmentTrees$Order" 79 5 y_O_entryOf c_O_entryOf 5 (some (.int)) 1 := ⟨⟨_, _, rfl⟩, zz_in (i := 615) (by decide +kernel) (by decide +kernel), zz_in (i := 617) (by decide +kernel) (by decide +kernel), zz_in (i := 7) (by decide +kernel) (by decide +kernel), zz_in (i := 38) (by decide +kernel) (by decide +kernel), zz_in (i := 618) (by decide +kernel) (by decide +kernel), by decide, by decide, by decide +kernel⟩
theorem cv_O_83 : zz_CV "SegmentTrees$Order" 83 2 y_S_entersBefore c_S_entersBefore 4 (some (.boolean)) 1 := ⟨⟨_, _, rfl⟩, zz_in (i := 619) (by decide +kernel) (by decide +kernel), zz_in (i := 620) (by decide +kernel) (by decide +kernel), zz_in (i := 621) (by decide +kernel) (by decide +kernel), zz_in (i := 48) (by decide +kernel) (by decide +kernel), zz_in (i := 622) (by decide +kernel) (by decide +kernel), by decide, by decide, by decide +kernel⟩
theorem cv_O_86 : zz_CV "SegmentTrees$Order" 86 2 y_S_isInTreeOf c_S_isInTreeOf 2 (some (.boolean)) 1 := ⟨⟨_, _, rfl⟩, zz_in (i := 623) (by decide +kernel) (by decide +kernel), zz_in (i := 189) (by decide +kernel) (by decide +kernel), zz_in (i := 190) (by decide +kernel) (by decide +kernel), zz_in (i := 48) (by decide +kernel) (by decide +kernel), zz_in (i := 191) (by decide +kernel) (by decide +kernel), by decide, by decide, by decide +kernel⟩
theorem cv_O_32 : zz_CV "SegmentTrees$Order" 32 5 y_O_arrange c_O_arrange 1 (none) 0 := ⟨⟨_, _, rfl⟩, zz_in (i := 624) (by decide +kernel) (by decide +kernel), zz_in (i := 625) (by decide +kernel) (by decide +kernel), zz_in (i := 626) (by decide +kernel) (by decide +kernel), zz_in (i := 38) (by decide +kernel) (by decide +kernel), zz_in (i := 627) (by decide +kernel) (by decide +kernel), by decide, by decide, by decide +kernel⟩
theorem cv_O_98 : zz_CV "SegmentTrees$Order" 98 5 y_O_findValues c_O_findValues 4 (none) 0 := ⟨⟨_, _, rfl⟩, zz_in (i := 629) (by decide +kernel) (by decide +kernel), zz_in (i := 631) (by decide +kernel) (by decide +kernel), zz_in (i := 8) (by decide +kernel) (by decide +kernel), zz_in (i := 38) (by decide +kernel) (by decide +kernel), zz_in (i := 632) (by decide +kernel) (by decide +kernel), by decide, by decide, by decide +kernel⟩
theorem cv_O_109 : zz_CV "SegmentTrees$Order" 109 2 y_S_clearValue c_S_clearValue 1 (none) 0 := ⟨⟨_, _, rfl⟩, zz_in (i := 633) (by decide +kernel) (by decide +kernel), zz_in (i := 634) (by decide +kernel) (by decide +kernel), zz_in (i := 635) (by decide +kernel) (by decide +kernel), zz_in (i := 48) (by decide +kernel) (by decide +kernel), zz_in (i := 636) (by decide +kernel) (by decide +kernel), by decide, by decide, by decide +kernel⟩
theorem cv_O_112 : zz_CV "SegmentTrees$Order" 112 2 y_S_atLevel c_S_atLevel 4 (some ((.object "SegmentTrees$Segment"))) 1 := ⟨⟨_, _, rfl⟩, zz_in (i := 637) (by decide +kernel) (by decide +kernel), zz_in (i := 193) (by decide +kernel) (by decide +kernel), zz_in (i := 194) (by decide +kernel) (by decide +kernel), zz_in (i := 48) (by decide +kernel) (by decide +kernel), zz_in (i := 195) (by decide +kernel) (by decide +kernel), by decide, by decide, by decide +kernel⟩
theorem cv_O_116 : zz_CV "SegmentTrees$Order" 116 2 y_S_offerValue c_S_offerValue 2 (none) 1 := ⟨⟨_, _, rfl⟩, zz_in (i := 638) (by decide +kernel) (by decide +kernel), zz_in (i := 639) (by decide +kernel) (by decide +kernel), zz_in (i := 640) (by decide +kernel) (by decide +kernel), zz_in (i := 48) (by decide +kernel) (by decide +kernel), zz_in (i := 641) (by decide +kernel) (by decide +kernel), by decide, by decide, by decide +kernel⟩
theorem cv_O_101 : zz_CV "SegmentTrees$Order" 101 1 y_K_rootKind c_K_rootKind 3 (some ((.object "SegmentTrees$Kind"))) 0 := ⟨⟨_, _, rfl⟩, zz_in (i := 642) (by decide +kernel) (by decide +kernel), zz_in (i := 643) (by decide +kernel) (by decide +kernel), zz_in (i := 644) (by decide +kernel) (by decide +kernel), zz_in (i := 46) (by decide +kernel) (by decide +kernel), zz_in (i := 645) (by decide +kernel) (by decide +kernel), by decide, by decide, by decide +kernel⟩
theorem cv_O_105 : zz_CV "SegmentTrees$Order" 105 5 y_O_arrangeRoots c_O_arrangeRoots 5 (none) 1 := ⟨⟨_, _, rfl⟩, zz_in (i := 646) (by decide +kernel) (by decide +kernel), zz_in (i := 648) (by decide +kernel) (by decide +kernel), zz_in (i := 9) (by decide +kernel) (by decide +kernel), zz_in (i := 38) (by decide +kernel) (by decide +kernel), zz_in (i := 649) (by decide +kernel) (by decide +kernel), by decide, by decide, by decide +kernel⟩
theorem cv_O_120 : zz_CV "SegmentTrees$Order" 120 5 y_O_leastRootAfter c_O_leastRootAfter 6 (some (.int)) 2 := ⟨⟨_, _, rfl⟩, zz_in (i := 650) (by decide +kernel) (by decide +kernel), zz_in (i := 652) (by decide +kernel) (by decide +kernel), zz_in (i := 10) (by decide +kernel) (by decide +kernel), zz_in (i := 38) (by decide +kernel) (by decide +kernel), zz_in (i := 653) (by decide +kernel) (by decide +kernel), by decide, by decide, by decide +kernel⟩
theorem cv_O_128 : zz_CV "SegmentTrees$Order" 128 2 y_S_comesBeforeBySecond c_S_comesBeforeBySecond 2 (some (.boolean)) 1 := ⟨⟨_, _, rfl⟩, zz_in (i := 654) (by decide +kernel) (by decide +kernel), zz_in (i := 655) (by decide +kernel) (by decide +kernel), zz_in (i := 656) (by decide +kernel) (by decide +kernel), zz_in (i := 48) (by decide +kernel) (by decide +kernel), zz_in (i := 657) (by decide +kernel) (by decide +kernel), by decide, by decide, by decide +kernel⟩
theorem cv_O_124 : zz_CV "SegmentTrees$Order" 124 5 y_O_copyTree c_O_copyTree 6 (some (.int)) 2 := ⟨⟨_, _, rfl⟩, zz_in (i := 658) (by decide +kernel) (by decide +kernel), zz_in (i := 660) (by decide +kernel) (by decide +kernel), zz_in (i := 11) (by decide +kernel) (by decide +kernel), zz_in (i := 38) (by decide +kernel) (by decide +kernel), zz_in (i := 661) (by decide +kernel) (by decide +kernel), by decide, by decide, by decide +kernel⟩
theorem cv_W_48 : zz_CV "SegmentTreesLaw" 48 0 y_T_replace c_T_replace 2 (some (.boolean)) 0 := ⟨⟨_, _, rfl⟩, zz_in (i := 665) (by decide +kernel) (by decide +kernel), zz_in (i := 666) (by decide +kernel) (by decide +kernel), zz_in (i := 667) (by decide +kernel) (by decide +kernel), zz_in (i := 35) (by decide +kernel) (by decide +kernel), zz_in (i := 668) (by decide +kernel) (by decide +kernel), by decide, by decide, by decide +kernel⟩
theorem cv_T_216 : zz_CV "SegmentTrees" 216 2 y_S_hasSequenceOf c_S_hasSequenceOf 2 (some (.boolean)) 1 := ⟨⟨_, _, rfl⟩, zz_in (i := 670) (by decide +kernel) (by decide +kernel), zz_in (i := 552) (by decide +kernel) (by decide +kernel), zz_in (i := 553) (by decide +kernel) (by decide +kernel), zz_in (i := 48) (by decide +kernel) (by decide +kernel), zz_in (i := 554) (by decide +kernel) (by decide +kernel), by decide, by decide, by decide +kernel⟩
theorem cv_T_222 : zz_CV "SegmentTrees" 222 5 y_O_arrange c_O_arrange 1 (none) 0 := ⟨⟨_, _, rfl⟩, zz_in (i := 671) (by decide +kernel) (by decide +kernel), zz_in (i := 625) (by decide +kernel) (by decide +kernel), zz_in (i := 626) (by decide +kernel) (by decide +kernel), zz_in (i := 38) (by decide +kernel) (by decide +kernel), zz_in (i := 627) (by decide +kernel) (by decide +kernel), by decide, by decide, by decide +kernel⟩
theorem cv_W_52 : zz_CV "SegmentTreesLaw" 52 0 y_T_delete c_T_delete 4 (some (.int)) 0 := ⟨⟨_, _, rfl⟩, zz_in (i := 675) (by decide +kernel) (by decide +kernel), zz_in (i := 676) (by decide +kernel) (by decide +kernel), zz_in (i := 677) (by decide +kernel) (by decide +kernel), zz_in (i := 35) (by decide +kernel) (by decide +kernel), zz_in (i := 678) (by decide +kernel) (by decide +kernel), by decide, by decide, by decide +kernel⟩
theorem cv_T_225 : zz_CV "SegmentTrees" 225 5 y_O_firstBehindTree c_O_firstBehindTree 3 (some ((.object "SegmentTrees$Segment"))) 1 := ⟨⟨_, _, rfl⟩, zz_in (i := 679) (by decide +kernel) (by decide +kernel), zz_in (i := 680) (by decide +kernel) (by decide +kernel), zz_in (i := 681) (by decide +kernel) (by decide +kernel), zz_in (i := 38) (by decide +kernel) (by decide +kernel), zz_in (i := 682) (by decide +kernel) (by decide +kernel), by decide, by decide, by decide +kernel⟩
theorem cv_O_89 : zz_CV "SegmentTrees$Order" 89 5 y_O_indexOf c_O_indexOf 3 (some (.int)) 1 := ⟨⟨_, _, rfl⟩, zz_in (i := 683) (by decide +kernel) (by decide +kernel), zz_in (i := 241) (by decide +kernel) (by decide +kernel), zz_in (i := 242) (by decide +kernel) (by decide +kernel), zz_in (i := 38) (by decide +kernel) (by decide +kernel), zz_in (i := 243) (by decide +kernel) (by decide +kernel), by decide, by decide, by decide +kernel⟩
theorem cv_T_229 : zz_CV "SegmentTrees" 229 2 y_S_isInTreeOf c_S_isInTreeOf 2 (some (.boolean)) 1 := ⟨⟨_, _, rfl⟩, zz_in (i := 684) (by decide +kernel) (by decide +kernel), zz_in (i := 189) (by decide +kernel) (by decide +kernel), zz_in (i := 190) (by decide +kernel) (by decide +kernel), zz_in (i := 48) (by decide +kernel) (by decide +kernel), zz_in (i := 191) (by decide +kernel) (by decide +kernel), by decide, by decide, by decide +kernel⟩
theorem cv_T_233 : zz_CV "SegmentTrees" 233 5 y_O_removeTree c_O_removeTree 5 (some (.int)) 1 := ⟨⟨_, _, rfl⟩, zz_in (i := 685) (by decide +kernel) (by decide +kernel), zz_in (i := 686) (by decide +kernel) (by decide +kernel), zz_in (i := 687) (by decide +kernel) (by decide +kernel), zz_in (i := 38) (by decide +kernel) (by decide +kernel), zz_in (i := 688) (by decide +kernel) (by decide +kernel), by decide, by decide, by decide +kernel⟩
theorem cv_T_236 : zz_CV "SegmentTrees" 236 6 y_Q_standInFrontOf c_Q_standInFrontOf 2 (none) 1 := ⟨⟨_, _, rfl⟩, zz_in (i := 689) (by decide +kernel) (by decide +kernel), zz_in (i := 690) (by decide +kernel) (by decide +kernel), zz_in (i := 691) (by decide +kernel) (by decide +kernel), zz_in (i := 39) (by decide +kernel) (by decide +kernel), zz_in (i := 692) (by decide +kernel) (by decide +kernel), by decide, by decide, by decide +kernel⟩
theorem cv_W_55 : zz_CV "SegmentTreesLaw" 55 0 y_T_bySecond c_T_bySecond 2 (none) 1 := ⟨⟨_, _, rfl⟩, zz_in (i := 696) (by decide +kernel) (by decide +kernel), zz_in (i := 697) (by decide +kernel) (by decide +kernel), zz_in (i := 698) (by decide +kernel) (by decide +kernel), zz_in (i := 35) (by decide +kernel) (by decide +kernel), zz_in (i := 699) (by decide +kernel) (by decide +kernel), by decide, by decide, by decide +kernel⟩
theorem cv_T_239 : zz_CV "SegmentTrees" 239 5 y_O_hasSecond c_O_hasSecond 1 (some (.boolean)) 0 := ⟨⟨_, _, rfl⟩, zz_in (i := 700) (by decide +kernel) (by decide +kernel), zz_in (i := 701) (by decide +kernel) (by decide +kernel), zz_in (i := 702) (by decide +kernel) (by decide +kernel), zz_in (i := 38) (by decide +kernel) (by decide +kernel), zz_in (i := 703) (by decide +kernel) (by decide +kernel), by decide, by decide, by decide +kernel⟩
theorem cv_T_244 : zz_CV "SegmentTrees" 244 5 y_O_turnSecond c_O_turnSecond 2 (none) 1 := ⟨⟨_, _, rfl⟩, zz_in (i := 705) (by decide +kernel) (by decide +kernel), zz_in (i := 706) (by decide +kernel) (by decide +kernel), zz_in (i := 707) (by decide +kernel) (by decide +kernel), zz_in (i := 38) (by decide +kernel) (by decide +kernel), zz_in (i := 708) (by decide +kernel) (by decide +kernel), by decide, by decide, by decide +kernel⟩
theorem cv_T_248 : zz_CV "SegmentTrees" 248 6 y_Q_standInFrontOfAll c_Q_standInFrontOfAll 1 (none) 0 := ⟨⟨_, _, rfl⟩, zz_in (i := 709) (by decide +kernel) (by decide +kernel), zz_in (i := 710) (by decide +kernel) (by decide +kernel), zz_in (i := 711) (by decide +kernel) (by decide +kernel), zz_in (i := 39) (by decide +kernel) (by decide +kernel), zz_in (i := 712) (by decide +kernel) (by decide +kernel), by decide, by decide, by decide +kernel⟩
theorem ci_W_62 : zz_CI "SegmentTreesLaw" 62 7 y_M_init c_M_init 2 0 := ⟨⟨_, _, rfl⟩, zz_in (i := 715) (by decide +kernel) (by decide +kernel), zz_in (i := 716) (by decide +kernel) (by decide +kernel), zz_in (i := 40) (by decide +kernel) (by decide +kernel), zz_in (i := 717) (by decide +kernel) (by decide +kernel), rfl, by decide, by decide, by decide +kernel⟩
theorem gf_M_88 : zz_GF "SegmentTreesModel" 88 7 0 none false := ⟨_, _, _, rfl, by decide, zz_in (i := 719) (by decide +kernel) (by decide +kernel), rfl, rfl⟩
theorem gf_M_7 : zz_GF "SegmentTreesModel" 7 7 1 (some 91) true := ⟨_, _, _, rfl, by decide, zz_in (i := 720) (by decide +kernel) (by decide +kernel), rfl, rfl⟩
theorem gf_M_13 : zz_GF "SegmentTreesModel" 13 7 2 (some 90) true := ⟨_, _, _, rfl, by decide, zz_in (i := 721) (by decide +kernel) (by decide +kernel), rfl, rfl⟩
theorem gf_M_17 : zz_GF "SegmentTreesModel" 17 7 3 (some 90) true := ⟨_, _, _, rfl, by decide, zz_in (i := 722) (by decide +kernel) (by decide +kernel), rfl, rfl⟩
theorem gf_M_20 : zz_GF "SegmentTreesModel" 20 7 4 (some 90) true := ⟨_, _, _, rfl, by decide, zz_in (i := 723) (by decide +kernel) (by decide +kernel), rfl, rfl⟩
theorem gf_M_23 : zz_GF "SegmentTreesModel" 23 7 5 (some 90) true := ⟨_, _, _, rfl, by decide, zz_in (i := 724) (by decide +kernel) (by decide +kernel), rfl, rfl⟩
theorem gf_M_26 : zz_GF "SegmentTreesModel" 26 7 6 (some 91) true := ⟨_, _, _, rfl, by decide, zz_in (i := 725) (by decide +kernel) (by decide +kernel), rfl, rfl⟩
theorem gf_M_29 : zz_GF "SegmentTreesModel" 29 7 7 (some 91) true := ⟨_, _, _, rfl, by decide, zz_in (i := 726) (by decide +kernel) (by decide +kernel), rfl, rfl⟩
theorem gf_M_32 : zz_GF "SegmentTreesModel" 32 7 8 (some 90) true := ⟨_, _, _, rfl, by decide, zz_in (i := 727) (by decide +kernel) (by decide +kernel), rfl, rfl⟩
theorem gf_M_35 : zz_GF "SegmentTreesModel" 35 7 9 none false := ⟨_, _, _, rfl, by decide, zz_in (i := 728) (by decide +kernel) (by decide +kernel), rfl, rfl⟩
theorem gf_M_105 : zz_GF "SegmentTreesModel" 105 7 10 none false := ⟨_, _, _, rfl, by decide, zz_in (i := 729) (by decide +kernel) (by decide +kernel), rfl, rfl⟩
theorem gf_M_124 : zz_GF "SegmentTreesModel" 124 7 11 none false := ⟨_, _, _, rfl, by decide, zz_in (i := 730) (by decide +kernel) (by decide +kernel), rfl, rfl⟩
theorem gf_M_98 : zz_GF "SegmentTreesModel" 98 7 12 none false := ⟨_, _, _, rfl, by decide, zz_in (i := 731) (by decide +kernel) (by decide +kernel), rfl, rfl⟩
theorem gf_M_153 : zz_GF "SegmentTreesModel" 153 7 13 none false := ⟨_, _, _, rfl, by decide, zz_in (i := 732) (by decide +kernel) (by decide +kernel), rfl, rfl⟩
theorem gf_M_39 : zz_GF "SegmentTreesModel" 39 7 14 (some 90) true := ⟨_, _, _, rfl, by decide, zz_in (i := 733) (by decide +kernel) (by decide +kernel), rfl, rfl⟩
theorem gf_M_42 : zz_GF "SegmentTreesModel" 42 7 15 (some 90) true := ⟨_, _, _, rfl, by decide, zz_in (i := 734) (by decide +kernel) (by decide +kernel), rfl, rfl⟩
theorem gf_M_45 : zz_GF "SegmentTreesModel" 45 7 16 (some 90) true := ⟨_, _, _, rfl, by decide, zz_in (i := 735) (by decide +kernel) (by decide +kernel), rfl, rfl⟩
theorem gf_M_48 : zz_GF "SegmentTreesModel" 48 7 17 (some 90) true := ⟨_, _, _, rfl, by decide, zz_in (i := 736) (by decide +kernel) (by decide +kernel), rfl, rfl⟩
theorem gf_M_51 : zz_GF "SegmentTreesModel" 51 7 18 (some 90) true := ⟨_, _, _, rfl, by decide, zz_in (i := 737) (by decide +kernel) (by decide +kernel), rfl, rfl⟩
theorem gf_M_54 : zz_GF "SegmentTreesModel" 54 7 19 (some 90) true := ⟨_, _, _, rfl, by decide, zz_in (i := 738) (by decide +kernel) (by decide +kernel), rfl, rfl⟩
theorem gf_M_57 : zz_GF "SegmentTreesModel" 57 7 20 (some 92) true := ⟨_, _, _, rfl, by decide, zz_in (i := 739) (by decide +kernel) (by decide +kernel), rfl, rfl⟩
theorem gf_M_61 : zz_GF "SegmentTreesModel" 61 7 21 (some 91) true := ⟨_, _, _, rfl, by decide, zz_in (i := 740) (by decide +kernel) (by decide +kernel), rfl, rfl⟩
theorem gf_M_64 : zz_GF "SegmentTreesModel" 64 7 22 (some 90) true := ⟨_, _, _, rfl, by decide, zz_in (i := 741) (by decide +kernel) (by decide +kernel), rfl, rfl⟩
theorem gf_M_67 : zz_GF "SegmentTreesModel" 67 7 23 (some 90) true := ⟨_, _, _, rfl, by decide, zz_in (i := 742) (by decide +kernel) (by decide +kernel), rfl, rfl⟩
theorem gf_M_70 : zz_GF "SegmentTreesModel" 70 7 24 (some 90) true := ⟨_, _, _, rfl, by decide, zz_in (i := 743) (by decide +kernel) (by decide +kernel), rfl, rfl⟩
theorem gf_M_73 : zz_GF "SegmentTreesModel" 73 7 25 (some 90) true := ⟨_, _, _, rfl, by decide, zz_in (i := 744) (by decide +kernel) (by decide +kernel), rfl, rfl⟩
theorem gf_M_76 : zz_GF "SegmentTreesModel" 76 7 26 (some 90) true := ⟨_, _, _, rfl, by decide, zz_in (i := 745) (by decide +kernel) (by decide +kernel), rfl, rfl⟩
theorem gf_M_79 : zz_GF "SegmentTreesModel" 79 7 27 (some 90) true := ⟨_, _, _, rfl, by decide, zz_in (i := 746) (by decide +kernel) (by decide +kernel), rfl, rfl⟩
theorem gf_M_144 : zz_GF "SegmentTreesModel" 144 7 28 none false := ⟨_, _, _, rfl, by decide, zz_in (i := 747) (by decide +kernel) (by decide +kernel), rfl, rfl⟩
theorem gf_M_147 : zz_GF "SegmentTreesModel" 147 7 29 none false := ⟨_, _, _, rfl, by decide, zz_in (i := 748) (by decide +kernel) (by decide +kernel), rfl, rfl⟩
theorem gf_M_82 : zz_GF "SegmentTreesModel" 82 7 30 none false := ⟨_, _, _, rfl, by decide, zz_in (i := 749) (by decide +kernel) (by decide +kernel), rfl, rfl⟩
theorem gf_M_85 : zz_GF "SegmentTreesModel" 85 7 31 none false := ⟨_, _, _, rfl, by decide, zz_in (i := 750) (by decide +kernel) (by decide +kernel), rfl, rfl⟩
theorem cv_W_69 : zz_CV "SegmentTreesLaw" 69 7 y_M_thrown c_M_thrown 1 (some (.int)) 0 := ⟨⟨_, _, rfl⟩, zz_in (i := 818) (by decide +kernel) (by decide +kernel), zz_in (i := 819) (by decide +kernel) (by decide +kernel), zz_in (i := 820) (by decide +kernel) (by decide +kernel), zz_in (i := 40) (by decide +kernel) (by decide +kernel), zz_in (i := 821) (by decide +kernel) (by decide +kernel), by decide, by decide, by decide +kernel⟩
theorem cv_W_68 : zz_CV "SegmentTreesLaw" 68 7 y_M_type c_M_type 8 (none) 6 := ⟨⟨_, _, rfl⟩, zz_in (i := 822) (by decide +kernel) (by decide +kernel), zz_in (i := 823) (by decide +kernel) (by decide +kernel), zz_in (i := 824) (by decide +kernel) (by decide +kernel), zz_in (i := 40) (by decide +kernel) (by decide +kernel), zz_in (i := 825) (by decide +kernel) (by decide +kernel), by decide, by decide, by decide +kernel⟩
theorem cv_M_91 : zz_CV "SegmentTreesModel" 91 7 y_M_begin c_M_begin 1 (none) 0 := ⟨⟨_, _, rfl⟩, zz_in (i := 826) (by decide +kernel) (by decide +kernel), zz_in (i := 828) (by decide +kernel) (by decide +kernel), zz_in (i := 12) (by decide +kernel) (by decide +kernel), zz_in (i := 40) (by decide +kernel) (by decide +kernel), zz_in (i := 829) (by decide +kernel) (by decide +kernel), by decide, by decide, by decide +kernel⟩
theorem cv_M_94 : zz_CV "SegmentTreesModel" 94 7 y_M_isType c_M_isType 2 (some (.boolean)) 1 := ⟨⟨_, _, rfl⟩, zz_in (i := 830) (by decide +kernel) (by decide +kernel), zz_in (i := 832) (by decide +kernel) (by decide +kernel), zz_in (i := 13) (by decide +kernel) (by decide +kernel), zz_in (i := 40) (by decide +kernel) (by decide +kernel), zz_in (i := 833) (by decide +kernel) (by decide +kernel), by decide, by decide, by decide +kernel⟩
theorem cv_W_75 : zz_CV "SegmentTreesLaw" 75 7 y_M_twins c_M_twins 3 (none) 2 := ⟨⟨_, _, rfl⟩, zz_in (i := 834) (by decide +kernel) (by decide +kernel), zz_in (i := 835) (by decide +kernel) (by decide +kernel), zz_in (i := 836) (by decide +kernel) (by decide +kernel), zz_in (i := 40) (by decide +kernel) (by decide +kernel), zz_in (i := 837) (by decide +kernel) (by decide +kernel), by decide, by decide, by decide +kernel⟩
theorem cv_W_78 : zz_CV "SegmentTreesLaw" 78 7 y_M_second c_M_second 3 (none) 2 := ⟨⟨_, _, rfl⟩, zz_in (i := 838) (by decide +kernel) (by decide +kernel), zz_in (i := 839) (by decide +kernel) (by decide +kernel), zz_in (i := 840) (by decide +kernel) (by decide +kernel), zz_in (i := 40) (by decide +kernel) (by decide +kernel), zz_in (i := 841) (by decide +kernel) (by decide +kernel), by decide, by decide, by decide +kernel⟩
theorem cv_M_101 : zz_CV "SegmentTreesModel" 101 7 y_M_hasWord c_M_hasWord 3 (some (.boolean)) 2 := ⟨⟨_, _, rfl⟩, zz_in (i := 842) (by decide +kernel) (by decide +kernel), zz_in (i := 844) (by decide +kernel) (by decide +kernel), zz_in (i := 14) (by decide +kernel) (by decide +kernel), zz_in (i := 40) (by decide +kernel) (by decide +kernel), zz_in (i := 845) (by decide +kernel) (by decide +kernel), by decide, by decide, by decide +kernel⟩
theorem cv_W_82 : zz_CV "SegmentTreesLaw" 82 7 y_M_clearPath c_M_clearPath 2 (none) 0 := ⟨⟨_, _, rfl⟩, zz_in (i := 846) (by decide +kernel) (by decide +kernel), zz_in (i := 847) (by decide +kernel) (by decide +kernel), zz_in (i := 848) (by decide +kernel) (by decide +kernel), zz_in (i := 40) (by decide +kernel) (by decide +kernel), zz_in (i := 849) (by decide +kernel) (by decide +kernel), by decide, by decide, by decide +kernel⟩
theorem cv_W_86 : zz_CV "SegmentTreesLaw" 86 7 y_M_path c_M_path 7 (some (.boolean)) 4 := ⟨⟨_, _, rfl⟩, zz_in (i := 850) (by decide +kernel) (by decide +kernel), zz_in (i := 851) (by decide +kernel) (by decide +kernel), zz_in (i := 852) (by decide +kernel) (by decide +kernel), zz_in (i := 40) (by decide +kernel) (by decide +kernel), zz_in (i := 853) (by decide +kernel) (by decide +kernel), by decide, by decide, by decide +kernel⟩
theorem cv_W_89 : zz_CV "SegmentTreesLaw" 89 7 y_M_work c_M_work 3 (none) 2 := ⟨⟨_, _, rfl⟩, zz_in (i := 854) (by decide +kernel) (by decide +kernel), zz_in (i := 855) (by decide +kernel) (by decide +kernel), zz_in (i := 856) (by decide +kernel) (by decide +kernel), zz_in (i := 40) (by decide +kernel) (by decide +kernel), zz_in (i := 857) (by decide +kernel) (by decide +kernel), by decide, by decide, by decide +kernel⟩
theorem cv_W_93 : zz_CV "SegmentTreesLaw" 93 7 y_M_unique c_M_unique 2 (some (.int)) 1 := ⟨⟨_, _, rfl⟩, zz_in (i := 858) (by decide +kernel) (by decide +kernel), zz_in (i := 859) (by decide +kernel) (by decide +kernel), zz_in (i := 860) (by decide +kernel) (by decide +kernel), zz_in (i := 40) (by decide +kernel) (by decide +kernel), zz_in (i := 861) (by decide +kernel) (by decide +kernel), by decide, by decide, by decide +kernel⟩
theorem cv_M_162 : zz_CV "SegmentTreesModel" 162 7 y_M_sort c_M_sort 4 (none) 0 := ⟨⟨_, _, rfl⟩, zz_in (i := 862) (by decide +kernel) (by decide +kernel), zz_in (i := 864) (by decide +kernel) (by decide +kernel), zz_in (i := 15) (by decide +kernel) (by decide +kernel), zz_in (i := 40) (by decide +kernel) (by decide +kernel), zz_in (i := 865) (by decide +kernel) (by decide +kernel), by decide, by decide, by decide +kernel⟩
theorem cv_M_138 : zz_CV "SegmentTreesModel" 138 7 y_M_findValues c_M_findValues 5 (none) 0 := ⟨⟨_, _, rfl⟩, zz_in (i := 866) (by decide +kernel) (by decide +kernel), zz_in (i := 868) (by decide +kernel) (by decide +kernel), zz_in (i := 16) (by decide +kernel) (by decide +kernel), zz_in (i := 40) (by decide +kernel) (by decide +kernel), zz_in (i := 869) (by decide +kernel) (by decide +kernel), by decide, by decide, by decide +kernel⟩
theorem cv_M_120 : zz_CV "SegmentTreesModel" 120 7 y_M_rootOf c_M_rootOf 3 (some (.int)) 1 := ⟨⟨_, _, rfl⟩, zz_in (i := 871) (by decide +kernel) (by decide +kernel), zz_in (i := 873) (by decide +kernel) (by decide +kernel), zz_in (i := 17) (by decide +kernel) (by decide +kernel), zz_in (i := 40) (by decide +kernel) (by decide +kernel), zz_in (i := 874) (by decide +kernel) (by decide +kernel), by decide, by decide, by decide +kernel⟩
theorem cv_M_141 : zz_CV "SegmentTreesModel" 141 7 y_M_isFirst c_M_isFirst 8 (some (.boolean)) 2 := ⟨⟨_, _, rfl⟩, zz_in (i := 875) (by decide +kernel) (by decide +kernel), zz_in (i := 877) (by decide +kernel) (by decide +kernel), zz_in (i := 18) (by decide +kernel) (by decide +kernel), zz_in (i := 40) (by decide +kernel) (by decide +kernel), zz_in (i := 878) (by decide +kernel) (by decide +kernel), by decide, by decide, by decide +kernel⟩
theorem cv_M_131 : zz_CV "SegmentTreesModel" 131 7 y_M_atLevel c_M_atLevel 4 (some (.int)) 2 := ⟨⟨_, _, rfl⟩, zz_in (i := 879) (by decide +kernel) (by decide +kernel), zz_in (i := 881) (by decide +kernel) (by decide +kernel), zz_in (i := 19) (by decide +kernel) (by decide +kernel), zz_in (i := 40) (by decide +kernel) (by decide +kernel), zz_in (i := 882) (by decide +kernel) (by decide +kernel), by decide, by decide, by decide +kernel⟩
theorem cv_M_135 : zz_CV "SegmentTreesModel" 135 7 y_M_isSiblingFirst c_M_isSiblingFirst 5 (some (.boolean)) 2 := ⟨⟨_, _, rfl⟩, zz_in (i := 883) (by decide +kernel) (by decide +kernel), zz_in (i := 885) (by decide +kernel) (by decide +kernel), zz_in (i := 20) (by decide +kernel) (by decide +kernel), zz_in (i := 40) (by decide +kernel) (by decide +kernel), zz_in (i := 886) (by decide +kernel) (by decide +kernel), by decide, by decide, by decide +kernel⟩
theorem cv_M_128 : zz_CV "SegmentTreesModel" 128 7 y_M_rootType c_M_rootType 3 (some (.int)) 1 := ⟨⟨_, _, rfl⟩, zz_in (i := 887) (by decide +kernel) (by decide +kernel), zz_in (i := 889) (by decide +kernel) (by decide +kernel), zz_in (i := 21) (by decide +kernel) (by decide +kernel), zz_in (i := 40) (by decide +kernel) (by decide +kernel), zz_in (i := 890) (by decide +kernel) (by decide +kernel), by decide, by decide, by decide +kernel⟩
theorem cv_M_165 : zz_CV "SegmentTreesModel" 165 7 y_M_get c_M_get 6 (some (.int)) 3 := ⟨⟨_, _, rfl⟩, zz_in (i := 891) (by decide +kernel) (by decide +kernel), zz_in (i := 893) (by decide +kernel) (by decide +kernel), zz_in (i := 22) (by decide +kernel) (by decide +kernel), zz_in (i := 40) (by decide +kernel) (by decide +kernel), zz_in (i := 894) (by decide +kernel) (by decide +kernel), by decide, by decide, by decide +kernel⟩
theorem cv_M_156 : zz_CV "SegmentTreesModel" 156 7 y_M_isBelow c_M_isBelow 4 (some (.boolean)) 2 := ⟨⟨_, _, rfl⟩, zz_in (i := 895) (by decide +kernel) (by decide +kernel), zz_in (i := 897) (by decide +kernel) (by decide +kernel), zz_in (i := 23) (by decide +kernel) (by decide +kernel), zz_in (i := 40) (by decide +kernel) (by decide +kernel), zz_in (i := 898) (by decide +kernel) (by decide +kernel), by decide, by decide, by decide +kernel⟩
theorem cv_M_159 : zz_CV "SegmentTreesModel" 159 7 y_M_meets c_M_meets 4 (some (.boolean)) 1 := ⟨⟨_, _, rfl⟩, zz_in (i := 899) (by decide +kernel) (by decide +kernel), zz_in (i := 901) (by decide +kernel) (by decide +kernel), zz_in (i := 24) (by decide +kernel) (by decide +kernel), zz_in (i := 40) (by decide +kernel) (by decide +kernel), zz_in (i := 902) (by decide +kernel) (by decide +kernel), by decide, by decide, by decide +kernel⟩
theorem cv_M_115 : zz_CV "SegmentTreesModel" 115 7 y_M_fitsAbove c_M_fitsAbove 4 (some (.boolean)) 1 := ⟨⟨_, _, rfl⟩, zz_in (i := 903) (by decide +kernel) (by decide +kernel), zz_in (i := 905) (by decide +kernel) (by decide +kernel), zz_in (i := 25) (by decide +kernel) (by decide +kernel), zz_in (i := 40) (by decide +kernel) (by decide +kernel), zz_in (i := 906) (by decide +kernel) (by decide +kernel), by decide, by decide, by decide +kernel⟩
theorem cv_M_112 : zz_CV "SegmentTreesModel" 112 7 y_M_fits c_M_fits 5 (some (.boolean)) 1 := ⟨⟨_, _, rfl⟩, zz_in (i := 907) (by decide +kernel) (by decide +kernel), zz_in (i := 909) (by decide +kernel) (by decide +kernel), zz_in (i := 26) (by decide +kernel) (by decide +kernel), zz_in (i := 40) (by decide +kernel) (by decide +kernel), zz_in (i := 910) (by decide +kernel) (by decide +kernel), by decide, by decide, by decide +kernel⟩
theorem cs_M_108 : zz_CS "SegmentTreesModel" 108 y_M_holds c_M_holds 3 (some (.boolean)) 3 := ⟨zz_in (i := 911) (by decide +kernel) (by decide +kernel), zz_in (i := 912) (by decide +kernel) (by decide +kernel), zz_in (i := 40) (by decide +kernel) (by decide +kernel), zz_in (i := 913) (by decide +kernel) (by decide +kernel), rfl, by decide, by decide, by decide +kernel⟩
theorem cv_W_97 : zz_CV "SegmentTreesLaw" 97 7 y_M_next c_M_next 2 (some (.int)) 1 := ⟨⟨_, _, rfl⟩, zz_in (i := 914) (by decide +kernel) (by decide +kernel), zz_in (i := 915) (by decide +kernel) (by decide +kernel), zz_in (i := 916) (by decide +kernel) (by decide +kernel), zz_in (i := 40) (by decide +kernel) (by decide +kernel), zz_in (i := 917) (by decide +kernel) (by decide +kernel), by decide, by decide, by decide +kernel⟩
theorem cv_M_169 : zz_CV "SegmentTreesModel" 169 7 y_M_behind c_M_behind 1 (some (.int)) 0 := ⟨⟨_, _, rfl⟩, zz_in (i := 918) (by decide +kernel) (by decide +kernel), zz_in (i := 920) (by decide +kernel) (by decide +kernel), zz_in (i := 27) (by decide +kernel) (by decide +kernel), zz_in (i := 40) (by decide +kernel) (by decide +kernel), zz_in (i := 921) (by decide +kernel) (by decide +kernel), by decide, by decide, by decide +kernel⟩
theorem cv_M_150 : zz_CV "SegmentTreesModel" 150 7 y_M_indexOf c_M_indexOf 3 (some (.int)) 1 := ⟨⟨_, _, rfl⟩, zz_in (i := 922) (by decide +kernel) (by decide +kernel), zz_in (i := 924) (by decide +kernel) (by decide +kernel), zz_in (i := 28) (by decide +kernel) (by decide +kernel), zz_in (i := 40) (by decide +kernel) (by decide +kernel), zz_in (i := 925) (by decide +kernel) (by decide +kernel), by decide, by decide, by decide +kernel⟩
theorem cv_W_101 : zz_CV "SegmentTreesLaw" 101 7 y_M_within c_M_within 2 (some (.int)) 1 := ⟨⟨_, _, rfl⟩, zz_in (i := 926) (by decide +kernel) (by decide +kernel), zz_in (i := 927) (by decide +kernel) (by decide +kernel), zz_in (i := 928) (by decide +kernel) (by decide +kernel), zz_in (i := 40) (by decide +kernel) (by decide +kernel), zz_in (i := 929) (by decide +kernel) (by decide +kernel), by decide, by decide, by decide +kernel⟩
theorem cv_M_173 : zz_CV "SegmentTreesModel" 173 7 y_M_refuse c_M_refuse 2 (some (.int)) 1 := ⟨⟨_, _, rfl⟩, zz_in (i := 930) (by decide +kernel) (by decide +kernel), zz_in (i := 932) (by decide +kernel) (by decide +kernel), zz_in (i := 29) (by decide +kernel) (by decide +kernel), zz_in (i := 40) (by decide +kernel) (by decide +kernel), zz_in (i := 933) (by decide +kernel) (by decide +kernel), by decide, by decide, by decide +kernel⟩
theorem cv_W_105 : zz_CV "SegmentTreesLaw" 105 7 y_M_fix c_M_fix 1 (some (.int)) 0 := ⟨⟨_, _, rfl⟩, zz_in (i := 934) (by decide +kernel) (by decide +kernel), zz_in (i := 935) (by decide +kernel) (by decide +kernel), zz_in (i := 936) (by decide +kernel) (by decide +kernel), zz_in (i := 40) (by decide +kernel) (by decide +kernel), zz_in (i := 937) (by decide +kernel) (by decide +kernel), by decide, by decide, by decide +kernel⟩
theorem cv_W_109 : zz_CV "SegmentTreesLaw" 109 7 y_M_at c_M_at 1 (some (.int)) 0 := ⟨⟨_, _, rfl⟩, zz_in (i := 938) (by decide +kernel) (by decide +kernel), zz_in (i := 939) (by decide +kernel) (by decide +kernel), zz_in (i := 940) (by decide +kernel) (by decide +kernel), zz_in (i := 40) (by decide +kernel) (by decide +kernel), zz_in (i := 941) (by decide +kernel) (by decide +kernel), by decide, by decide, by decide +kernel⟩
theorem cv_W_113 : zz_CV "SegmentTreesLaw" 113 7 y_M_place c_M_place 1 (some (.int)) 0 := ⟨⟨_, _, rfl⟩, zz_in (i := 942) (by decide +kernel) (by decide +kernel), zz_in (i := 943) (by decide +kernel) (by decide +kernel), zz_in (i := 944) (by decide +kernel) (by decide +kernel), zz_in (i := 40) (by decide +kernel) (by decide +kernel), zz_in (i := 945) (by decide +kernel) (by decide +kernel), by decide, by decide, by decide +kernel⟩
theorem cv_W_117 : zz_CV "SegmentTreesLaw" 117 7 y_M_word c_M_word 2 (some (.int)) 1 := ⟨⟨_, _, rfl⟩, zz_in (i := 946) (by decide +kernel) (by decide +kernel), zz_in (i := 947) (by decide +kernel) (by decide +kernel), zz_in (i := 948) (by decide +kernel) (by decide +kernel), zz_in (i := 40) (by decide +kernel) (by decide +kernel), zz_in (i := 949) (by decide +kernel) (by decide +kernel), by decide, by decide, by decide +kernel⟩
theorem cv_W_120 : zz_CV "SegmentTreesLaw" 120 7 y_M_insert c_M_insert 5 (some (.int)) 1 := ⟨⟨_, _, rfl⟩, zz_in (i := 950) (by decide +kernel) (by decide +kernel), zz_in (i := 951) (by decide +kernel) (by decide +kernel), zz_in (i := 952) (by decide +kernel) (by decide +kernel), zz_in (i := 40) (by decide +kernel) (by decide +kernel), zz_in (i := 953) (by decide +kernel) (by decide +kernel), by decide, by decide, by decide +kernel⟩
theorem cv_M_176 : zz_CV "SegmentTreesModel" 176 7 y_M_findParent c_M_findParent 4 (some (.int)) 1 := ⟨⟨_, _, rfl⟩, zz_in (i := 954) (by decide +kernel) (by decide +kernel), zz_in (i := 956) (by decide +kernel) (by decide +kernel), zz_in (i := 30) (by decide +kernel) (by decide +kernel), zz_in (i := 40) (by decide +kernel) (by decide +kernel), zz_in (i := 957) (by decide +kernel) (by decide +kernel), by decide, by decide, by decide +kernel⟩
theorem cv_M_179 : zz_CV "SegmentTreesModel" 179 7 y_M_isTaken c_M_isTaken 6 (some (.boolean)) 2 := ⟨⟨_, _, rfl⟩, zz_in (i := 958) (by decide +kernel) (by decide +kernel), zz_in (i := 960) (by decide +kernel) (by decide +kernel), zz_in (i := 31) (by decide +kernel) (by decide +kernel), zz_in (i := 40) (by decide +kernel) (by decide +kernel), zz_in (i := 961) (by decide +kernel) (by decide +kernel), by decide, by decide, by decide +kernel⟩
theorem cv_M_182 : zz_CV "SegmentTreesModel" 182 7 y_M_findTwin c_M_findTwin 6 (some (.int)) 1 := ⟨⟨_, _, rfl⟩, zz_in (i := 962) (by decide +kernel) (by decide +kernel), zz_in (i := 964) (by decide +kernel) (by decide +kernel), zz_in (i := 32) (by decide +kernel) (by decide +kernel), zz_in (i := 40) (by decide +kernel) (by decide +kernel), zz_in (i := 965) (by decide +kernel) (by decide +kernel), by decide, by decide, by decide +kernel⟩
theorem cv_M_185 : zz_CV "SegmentTreesModel" 185 7 y_M_putWords c_M_putWords 3 (none) 1 := ⟨⟨_, _, rfl⟩, zz_in (i := 966) (by decide +kernel) (by decide +kernel), zz_in (i := 968) (by decide +kernel) (by decide +kernel), zz_in (i := 33) (by decide +kernel) (by decide +kernel), zz_in (i := 40) (by decide +kernel) (by decide +kernel), zz_in (i := 969) (by decide +kernel) (by decide +kernel), by decide, by decide, by decide +kernel⟩
theorem cv_W_123 : zz_CV "SegmentTreesLaw" 123 7 y_M_replace c_M_replace 3 (some (.boolean)) 0 := ⟨⟨_, _, rfl⟩, zz_in (i := 970) (by decide +kernel) (by decide +kernel), zz_in (i := 971) (by decide +kernel) (by decide +kernel), zz_in (i := 972) (by decide +kernel) (by decide +kernel), zz_in (i := 40) (by decide +kernel) (by decide +kernel), zz_in (i := 973) (by decide +kernel) (by decide +kernel), by decide, by decide, by decide +kernel⟩
theorem cv_W_126 : zz_CV "SegmentTreesLaw" 126 7 y_M_delete c_M_delete 5 (some (.int)) 0 := ⟨⟨_, _, rfl⟩, zz_in (i := 974) (by decide +kernel) (by decide +kernel), zz_in (i := 975) (by decide +kernel) (by decide +kernel), zz_in (i := 976) (by decide +kernel) (by decide +kernel), zz_in (i := 40) (by decide +kernel) (by decide +kernel), zz_in (i := 977) (by decide +kernel) (by decide +kernel), by decide, by decide, by decide +kernel⟩
theorem cv_W_130 : zz_CV "SegmentTreesLaw" 130 7 y_M_bySecond c_M_bySecond 2 (none) 1 := ⟨⟨_, _, rfl⟩, zz_in (i := 978) (by decide +kernel) (by decide +kernel), zz_in (i := 979) (by decide +kernel) (by decide +kernel), zz_in (i := 980) (by decide +kernel) (by decide +kernel), zz_in (i := 40) (by decide +kernel) (by decide +kernel), zz_in (i := 981) (by decide +kernel) (by decide +kernel), by decide, by decide, by decide +kernel⟩
theorem cv_W_134 : zz_CV "SegmentTreesLaw" 134 7 y_M_count c_M_count 1 (some (.int)) 0 := ⟨⟨_, _, rfl⟩, zz_in (i := 982) (by decide +kernel) (by decide +kernel), zz_in (i := 983) (by decide +kernel) (by decide +kernel), zz_in (i := 984) (by decide +kernel) (by decide +kernel), zz_in (i := 40) (by decide +kernel) (by decide +kernel), zz_in (i := 985) (by decide +kernel) (by decide +kernel), by decide, by decide, by decide +kernel⟩
theorem cv_W_139 : zz_CV "SegmentTreesLaw" 139 7 y_M_segment c_M_segment 5 (some (.int)) 2 := ⟨⟨_, _, rfl⟩, zz_in (i := 986) (by decide +kernel) (by decide +kernel), zz_in (i := 987) (by decide +kernel) (by decide +kernel), zz_in (i := 988) (by decide +kernel) (by decide +kernel), zz_in (i := 40) (by decide +kernel) (by decide +kernel), zz_in (i := 989) (by decide +kernel) (by decide +kernel), by decide, by decide, by decide +kernel⟩
theorem kl_W_8 : Cond.classLink "SegmentTreesLaw" 8 "SegmentTrees" ∈ zz_all := zz_in (i := 50) (by decide +kernel) (by decide +kernel)
theorem ol_T_1 : Cond.methodLink "SegmentTrees" 1 objectInit ∈ zz_all := zz_in (i := 55) (by decide +kernel) (by decide +kernel)
theorem kl_T_9 : Cond.classLink "SegmentTrees" 9 "SegmentTrees$Kind" ∈ zz_all := zz_in (i := 58) (by decide +kernel) (by decide +kernel)
theorem an_o_objectSegmentTreesKind : Cond.arrayOver (.object "SegmentTrees$Kind") ∈ zz_all := zz_in (i := 59) (by decide +kernel) (by decide +kernel)
theorem kl_T_19 : Cond.classLink "SegmentTrees" 19 "SegmentTrees$Path" ∈ zz_all := zz_in (i := 60) (by decide +kernel) (by decide +kernel)
theorem ol_P_3 : Cond.methodLink "SegmentTrees$Path" 3 objectInit ∈ zz_all := zz_in (i := 65) (by decide +kernel) (by decide +kernel)
theorem kl_P_9 : Cond.classLink "SegmentTrees$Path" 9 "SegmentTrees$PathLevel" ∈ zz_all := zz_in (i := 66) (by decide +kernel) (by decide +kernel)
theorem an_o_objectSegmentTreesPathLevel : Cond.arrayOver (.object "SegmentTrees$PathLevel") ∈ zz_all := zz_in (i := 67) (by decide +kernel) (by decide +kernel)
theorem ol_L_3 : Cond.methodLink "SegmentTrees$PathLevel" 3 objectInit ∈ zz_all := zz_in (i := 72) (by decide +kernel) (by decide +kernel)
theorem an_a_I : Cond.arrayClass .int ∈ zz_all := zz_in (i := 89) (by decide +kernel) (by decide +kernel)
theorem kl_T_26 : Cond.classLink "SegmentTrees" 26 "SegmentTrees$Order" ∈ zz_all := zz_in (i := 94) (by decide +kernel) (by decide +kernel)
theorem ol_O_3 : Cond.methodLink "SegmentTrees$Order" 3 objectInit ∈ zz_all := zz_in (i := 99) (by decide +kernel) (by decide +kernel)
theorem kl_O_9 : Cond.classLink "SegmentTrees$Order" 9 "SegmentTrees$Segment" ∈ zz_all := zz_in (i := 100) (by decide +kernel) (by decide +kernel)
theorem an_o_objectSegmentTreesSegment : Cond.arrayOver (.object "SegmentTrees$Segment") ∈ zz_all := zz_in (i := 101) (by decide +kernel) (by decide +kernel)
theorem kl_T_33 : Cond.classLink "SegmentTrees" 33 "SegmentTrees$Position" ∈ zz_all := zz_in (i := 123) (by decide +kernel) (by decide +kernel)
theorem ol_Q_1 : Cond.methodLink "SegmentTrees$Position" 1 objectInit ∈ zz_all := zz_in (i := 128) (by decide +kernel) (by decide +kernel)
theorem an_a_byte : Cond.arrayClass .byte ∈ zz_all := zz_in (i := 355) (by decide +kernel) (by decide +kernel)
theorem ol_K_3 : Cond.methodLink "SegmentTrees$Kind" 3 objectInit ∈ zz_all := zz_in (i := 389) (by decide +kernel) (by decide +kernel)
theorem kl_T_157 : Cond.classLink "SegmentTrees" 157 "SegmentTrees$Segment" ∈ zz_all := zz_in (i := 556) (by decide +kernel) (by decide +kernel)
theorem ol_S_3 : Cond.methodLink "SegmentTrees$Segment" 3 objectInit ∈ zz_all := zz_in (i := 561) (by decide +kernel) (by decide +kernel)
theorem al_S_32 : Cond.methodLink "SegmentTrees$Segment" 32 arraycopyName ∈ zz_all := zz_in (i := 600) (by decide +kernel) (by decide +kernel)
theorem al_O_92 : Cond.methodLink "SegmentTrees$Order" 92 arraycopyName ∈ zz_all := zz_in (i := 628) (by decide +kernel) (by decide +kernel)
theorem kl_W_60 : Cond.classLink "SegmentTreesLaw" 60 "SegmentTreesModel" ∈ zz_all := zz_in (i := 713) (by decide +kernel) (by decide +kernel)
theorem ol_M_1 : Cond.methodLink "SegmentTreesModel" 1 objectInit ∈ zz_all := zz_in (i := 718) (by decide +kernel) (by decide +kernel)
theorem an_a_B : Cond.arrayClass .boolean ∈ zz_all := zz_in (i := 816) (by decide +kernel) (by decide +kernel)
theorem an_a_L : Cond.arrayClass .long ∈ zz_all := zz_in (i := 817) (by decide +kernel) (by decide +kernel)
theorem lc_M_118 : Cond.constantLong "SegmentTreesModel" 118 (1099511627776 : Int64) ∈ zz_all := zz_in (i := 870) (by decide +kernel) (by decide +kernel)
theorem ni_T : Cond.instantiable "SegmentTrees" 8 ∈ zz_all := zz_in (i := 51) (by decide +kernel) (by decide +kernel)
theorem nj_T : Cond.initialized "SegmentTrees" ∈ zz_all := zz_in (i := 35) (by decide +kernel) (by decide +kernel)
theorem ni_K : Cond.instantiable "SegmentTrees$Kind" 8 ∈ zz_all := zz_in (i := 385) (by decide +kernel) (by decide +kernel)
theorem nj_K : Cond.initialized "SegmentTrees$Kind" ∈ zz_all := zz_in (i := 46) (by decide +kernel) (by decide +kernel)
theorem ni_S : Cond.instantiable "SegmentTrees$Segment" 7 ∈ zz_all := zz_in (i := 557) (by decide +kernel) (by decide +kernel)
theorem nj_S : Cond.initialized "SegmentTrees$Segment" ∈ zz_all := zz_in (i := 48) (by decide +kernel) (by decide +kernel)
theorem ni_L : Cond.instantiable "SegmentTrees$PathLevel" 5 ∈ zz_all := zz_in (i := 68) (by decide +kernel) (by decide +kernel)
theorem nj_L : Cond.initialized "SegmentTrees$PathLevel" ∈ zz_all := zz_in (i := 37) (by decide +kernel) (by decide +kernel)
theorem ni_P : Cond.instantiable "SegmentTrees$Path" 1 ∈ zz_all := zz_in (i := 61) (by decide +kernel) (by decide +kernel)
theorem nj_P : Cond.initialized "SegmentTrees$Path" ∈ zz_all := zz_in (i := 36) (by decide +kernel) (by decide +kernel)
theorem ni_O : Cond.instantiable "SegmentTrees$Order" 6 ∈ zz_all := zz_in (i := 95) (by decide +kernel) (by decide +kernel)
theorem nj_O : Cond.initialized "SegmentTrees$Order" ∈ zz_all := zz_in (i := 38) (by decide +kernel) (by decide +kernel)
theorem ni_Q : Cond.instantiable "SegmentTrees$Position" 3 ∈ zz_all := zz_in (i := 124) (by decide +kernel) (by decide +kernel)
theorem nj_Q : Cond.initialized "SegmentTrees$Position" ∈ zz_all := zz_in (i := 39) (by decide +kernel) (by decide +kernel)
theorem ni_M : Cond.instantiable "SegmentTreesModel" 32 ∈ zz_all := zz_in (i := 714) (by decide +kernel) (by decide +kernel)
theorem nj_M : Cond.initialized "SegmentTreesModel" ∈ zz_all := zz_in (i := 40) (by decide +kernel) (by decide +kernel)
theorem zw_oi : Cond.instanceMethod objectInit ∈ zz_all := zz_in (i := 56) (by decide +kernel) (by decide +kernel)
theorem zw_oc : Cond.code objectInit ⟨#[0xb1]⟩ 1 none ∈ zz_all := zz_in (i := 57) (by decide +kernel) (by decide +kernel)
theorem zw_an : Cond.native arraycopyName ∈ zz_all := zz_in (i := 602) (by decide +kernel) (by decide +kernel)
theorem zw_as : Cond.static arraycopyName ∈ zz_all := zz_in (i := 601) (by decide +kernel) (by decide +kernel)
theorem zw_ai : Cond.initialized "java/lang/System" ∈ zz_all := zz_in (i := 49) (by decide +kernel) (by decide +kernel)
end
section
/-! lists of ints in their lexicographic order; sorted lists are alike when they hold the same -/
def od_lx : List Int → List Int → Prop
  | [], [] => False
  | [], _ :: _ => True
  | _ :: _, [] => False
  | a :: s, b :: t => a < b ∨ (a = b ∧ od_lx s t)
theorem od_irr : ∀ s : List Int, ¬ od_lx s s
  | [] => fun h => h
  | a :: s => fun h => by
    rcases h with h | ⟨-, h⟩
    · omega
    · exact od_irr s h
theorem od_tr : ∀ s t u : List Int, od_lx s t → od_lx t u → od_lx s u
  | [], [], _, h, _ => h.elim
  | [], _ :: _, [], _, h => h.elim
  | [], _ :: _, _ :: _, _, _ => trivial
  | _ :: _, [], _, h, _ => h.elim
  | _ :: _, _ :: _, [], _, h => h.elim
  | a :: s, b :: t, c :: u, h1, h2 => by
    rcases h1 with h1 | ⟨e1, h1⟩
    · rcases h2 with h2 | ⟨e2, h2⟩
      · exact Or.inl (by omega)
      · exact Or.inl (by omega)
    · rcases h2 with h2 | ⟨e2, h2⟩
      · exact Or.inl (by omega)
      · exact Or.inr ⟨by omega, od_tr s t u h1 h2⟩
theorem od_tot : ∀ s t : List Int, od_lx s t ∨ s = t ∨ od_lx t s
  | [], [] => Or.inr (Or.inl rfl)
  | [], _ :: _ => Or.inl trivial
  | _ :: _, [] => Or.inr (Or.inr trivial)
  | a :: s, b :: t => by
    rcases Int.lt_trichotomy a b with h | h | h
    · exact Or.inl (Or.inl h)
    · subst h
      rcases od_tot s t with h | h | h
      · exact Or.inl (Or.inr ⟨rfl, h⟩)
      · subst h
        exact Or.inr (Or.inl rfl)
      · exact Or.inr (Or.inr (Or.inr ⟨rfl, h⟩))
    · exact Or.inr (Or.inr (Or.inl h))
theorem od_asy {s t : List Int} (h : od_lx s t) : ¬ od_lx t s := fun h2 => od_irr s (od_tr s t s h h2)
theorem od_app : ∀ p s t : List Int, od_lx (p ++ s) (p ++ t) ↔ od_lx s t
  | [], _, _ => Iff.rfl
  | a :: p, s, t => by
    show (a < a ∨ (a = a ∧ od_lx (p ++ s) (p ++ t))) ↔ od_lx s t
    constructor
    · rintro (h | ⟨-, h⟩)
      · omega
      · exact (od_app p s t).mp h
    · exact fun h => Or.inr ⟨rfl, (od_app p s t).mpr h⟩
theorem od_pre (p : List Int) (a : Int) (s : List Int) : od_lx p (p ++ a :: s) := by
  have := (od_app p [] (a :: s)).mpr trivial
  rwa [List.append_nil] at this
/-- what lies between p and p ++ [k] begins with p -/
theorem od_btw : ∀ (p : List Int) (s : List Int), od_lx p s → ∀ k, od_lx s (p ++ [k]) → ∃ a u, s = p ++ a :: u ∧ (a < k ∨ (a = k ∧ od_lx u []))
  | [], [], h, _, _ => h.elim
  | [], a :: u, _, k, h => ⟨a, u, rfl, h⟩
  | b :: p, [], h, _, _ => h.elim
  | b :: p, a :: s, h1, k, h2 => by
    rcases h1 with h1 | ⟨e1, h1⟩
    · rcases h2 with h2 | ⟨e2, h2⟩
      · omega
      · omega
    · rcases h2 with h2 | ⟨e2, h2⟩
      · omega
      · obtain ⟨a', u, e, h⟩ := od_btw p s h1 k h2
        exact ⟨a', u, by rw [e1, e]; rfl, h⟩
/-- what doesn't begin with p stands to all that does as it stands to p -/
theorem od_out : ∀ (p s : List Int), (¬ ∃ u, s = p ++ u) → (¬ ∃ v, p = s ++ v) → ∀ w, (od_lx s (p ++ w) ↔ od_lx s p) ∧ (od_lx (p ++ w) s ↔ od_lx p s)
  | [], s, h, _, _ => (h ⟨s, rfl⟩).elim
  | b :: p, [], _, h, _ => (h ⟨b :: p, rfl⟩).elim
  | b :: p, a :: s, h1, h2, w => by
    by_cases hab : a = b
    · subst hab
      have ih := od_out p s (fun ⟨u, e⟩ => h1 ⟨u, by rw [e]; rfl⟩) (fun ⟨v, e⟩ => h2 ⟨v, by rw [e]; rfl⟩) w
      constructor
      · show (a < a ∨ (a = a ∧ od_lx s (p ++ w))) ↔ (a < a ∨ (a = a ∧ od_lx s p))
        rw [ih.1]
      · show (a < a ∨ (a = a ∧ od_lx (p ++ w) s)) ↔ (a < a ∨ (a = a ∧ od_lx p s))
        rw [ih.2]
    · constructor
      · show (a < b ∨ (a = b ∧ od_lx s (p ++ w))) ↔ (a < b ∨ (a = b ∧ od_lx s p))
        constructor
        · rintro (h | ⟨e, -⟩)
          · exact Or.inl h
          · exact absurd e hab
        · rintro (h | ⟨e, -⟩)
          · exact Or.inl h
          · exact absurd e hab
      · show (b < a ∨ (b = a ∧ od_lx (p ++ w) s)) ↔ (b < a ∨ (b = a ∧ od_lx p s))
        constructor
        · rintro (h | ⟨e, -⟩)
          · exact Or.inl h
          · exact absurd e.symm hab
        · rintro (h | ⟨e, -⟩)
          · exact Or.inl h
          · exact absurd e.symm hab
theorem od_uniq {α : Type} {R : α → α → Prop} (irr : ∀ a, ¬ R a a) (tr : ∀ a b c, R a b → R b c → R a c) : ∀ l1 l2 : List α, l1.Pairwise R → l2.Pairwise R → (∀ x, x ∈ l1 ↔ x ∈ l2) → l1 = l2
  | [], [], _, _, _ => rfl
  | [], b :: l2, _, _, h => by have := (h b).mpr List.mem_cons_self; cases this
  | a :: l1, [], _, _, h => by have := (h a).mp List.mem_cons_self; cases this
  | a :: l1, b :: l2, h1, h2, h => by
    obtain ⟨p1, q1⟩ := List.pairwise_cons.mp h1
    obtain ⟨p2, q2⟩ := List.pairwise_cons.mp h2
    have hab : a = b := by
      rcases List.mem_cons.mp ((h a).mp List.mem_cons_self) with e | e
      · exact e
      · rcases List.mem_cons.mp ((h b).mpr List.mem_cons_self) with e' | e'
        · exact e'.symm
        · exact absurd (tr a b a (p1 b e') (p2 a e)) (irr a)
    subst hab
    rw [od_uniq irr tr l1 l2 q1 q2 (fun x => ?_)]
    constructor
    · intro hx
      rcases List.mem_cons.mp ((h x).mp (List.mem_cons_of_mem _ hx)) with e | e
      · subst e
        exact absurd (p1 x hx) (irr x)
      · exact e
    · intro hx
      rcases List.mem_cons.mp ((h x).mpr (List.mem_cons_of_mem _ hx)) with e | e
      · subst e
        exact absurd (p2 x hx) (irr x)
      · exact e
end
section
/-! Kind -/
noncomputable def zz_b (p : Prop) : Int32 := @ite _ p (Classical.propDecidable p) 1 0
theorem zz_bT {p : Prop} (h : p) : zz_b p = 1 := by
  unfold zz_b
  exact if_pos h
theorem zz_bF {p : Prop} (h : ¬ p) : zz_b p = 0 := by
  unfold zz_b
  exact if_neg h
theorem zz_b01 (p : Prop) : zz_b p = 0 ∨ zz_b p = 1 := by
  by_cases h : p
  · exact Or.inr (zz_bT h)
  · exact Or.inl (zz_bF h)
theorem zz_b_t {p : Prop} (h : ¬ zz_b p = 0) : p := Classical.byContradiction (fun z => h (zz_bF z))
theorem zz_b_f {p : Prop} (h : zz_b p = 0) : ¬ p := fun z => by
  rw [zz_bT z] at h
  exact absurd h (by decide)
theorem zz_b_iff {p q : Prop} (h : p ↔ q) : zz_b p = zz_b q := by
  by_cases hp : p
  · rw [zz_bT hp, zz_bT (h.mp hp)]
  · rw [zz_bF hp, zz_bF (fun z => hp (h.mpr z))]
theorem zz_b1 {P : Int32 → Prop} {p : Prop} (h : P (zz_b p)) (hp : p) : P 1 := by
  rw [zz_bT hp] at h
  exact h
theorem zz_b0 {P : Int32 → Prop} {p : Prop} (h : P (zz_b p)) (hp : ¬ p) : P 0 := by
  rw [zz_bF hp] at h
  exact h
/-- the kind on top of a chain of parents -/
def kd_root (h : zz_H) : Nat → Nat → Nat
  | 0, a => a
  | n + 1, a => match zz_fR h 1 1 a with
    | none => a
    | some b => kd_root h n b
def T_K_hasWord : zz_Tr := fun as h post => ∃ a i, as = [zz_r 1 (some a), zz_i i] ∧ post (some (zz_i (zz_b (0 ≤ i ∧ i < zz_fI h 1 3 a)))) h
set_option maxRecDepth 100000 in
set_option maxHeartbeats 4000000 in
theorem m_K_hasWord (l : Launch) : zz_Met l y_K_hasWord w_K_hasWord { frames := 1, cells := 0, slots := 0, locals := 12 } T_K_hasWord := by
  refine zz_ofZ (by decide) (fun as h post hT => ?_) ?_
  · obtain ⟨a, i, rfl, hp⟩ := hT
    exact ⟨by simp [zz_cat], by simp⟩
  · intro D DA h as post hT p e s m args below meth c Q C hr hlk hnm hQ
    obtain ⟨a, i, rfl, hp⟩ := hT
    refine zz_iload_n (q := 1) (f := 1) (i := 1) C (by decide +kernel) rfl rfl rfl ?_
    refine zz_if_lt (off := 15) (tgt := 16) (q := 4) C (by decide +kernel) (by decide) rfl (fun c1 => ?_) (fun c1 => ?_)
    · refine zz_iconst (q := 17) (n := 0) (x := 0) C (by decide +kernel) rfl (by decide +kernel) ?_
      refine zz_zret C hr hlk (by decide +kernel) (by decide) hQ (by decide) (by decide) ?_
      first | exact zz_b1 (P := fun x => post (some (zz_i x)) h) hp ⟨Int32.not_lt.mp c1, Int32.not_le.mp c9⟩ | exact zz_b0 (P := fun x => post (some (zz_i x)) h) hp (fun z => Int32.not_le.mpr c1 z.1) | exact zz_b0 (P := fun x => post (some (zz_i x)) h) hp (fun z => Int32.not_le.mpr z.2 c9)
    · refine zz_iload_n (q := 5) (f := 1) (i := 1) C (by decide +kernel) rfl rfl rfl ?_
      refine zz_aload_n (q := 6) (f := 0) (i := 0) C (by decide +kernel) rfl rfl rfl ?_
      refine zz_getI (q := 9) C gf_K_22 (by decide +kernel) rfl (by first | rfl | assumption) rfl ?_
      refine zz_icmp_ge (off := 7) (tgt := 16) (q := 12) C (by decide +kernel) (by decide) rfl (fun c9 => ?_) (fun c9 => ?_)
      · refine zz_iconst (q := 17) (n := 0) (x := 0) C (by decide +kernel) rfl (by decide +kernel) ?_
        refine zz_zret C hr hlk (by decide +kernel) (by decide) hQ (by decide) (by decide) ?_
        first | exact zz_b1 (P := fun x => post (some (zz_i x)) h) hp ⟨Int32.not_lt.mp c1, Int32.not_le.mp c9⟩ | exact zz_b0 (P := fun x => post (some (zz_i x)) h) hp (fun z => Int32.not_le.mpr c1 z.1) | exact zz_b0 (P := fun x => post (some (zz_i x)) h) hp (fun z => Int32.not_le.mpr z.2 c9)
      · refine zz_iconst (q := 13) (n := 1) (x := 1) C (by decide +kernel) rfl (by decide +kernel) ?_
        refine zz_goto (off := 4) (tgt := 17) C (by decide +kernel) (by decide) ?_
        refine zz_zret C hr hlk (by decide +kernel) (by decide) hQ (by decide) (by decide) ?_
        first | exact zz_b1 (P := fun x => post (some (zz_i x)) h) hp ⟨Int32.not_lt.mp c1, Int32.not_le.mp c9⟩ | exact zz_b0 (P := fun x => post (some (zz_i x)) h) hp (fun z => Int32.not_le.mpr c1 z.1) | exact zz_b0 (P := fun x => post (some (zz_i x)) h) hp (fun z => Int32.not_le.mpr z.2 c9)

def T_K_hasSequence : zz_Tr := fun as h post => ∃ a, as = [zz_r 1 (some a)] ∧ post (some (zz_i (zz_b (zz_fI h 1 4 a ≠ -1)))) h
set_option maxRecDepth 100000 in
set_option maxHeartbeats 4000000 in
theorem m_K_hasSequence (l : Launch) : zz_Met l y_K_hasSequence w_K_hasSequence { frames := 1, cells := 0, slots := 0, locals := 12 } T_K_hasSequence := by
  refine zz_ofZ (by decide) (fun as h post hT => ?_) ?_
  · obtain ⟨a, rfl, hp⟩ := hT
    exact ⟨by simp [zz_cat], by simp⟩
  · intro D DA h as post hT p e s m args below meth c Q C hr hlk hnm hQ
    obtain ⟨a, rfl, hp⟩ := hT
    refine zz_aload_n (q := 1) (f := 0) (i := 0) C (by decide +kernel) rfl rfl rfl ?_
    refine zz_getI (q := 4) C gf_K_25 (by decide +kernel) rfl (by first | rfl | assumption) rfl ?_
    refine zz_iconst (q := 5) (n := -1) (x := (-1)) C (by decide +kernel) rfl (by decide +kernel) ?_
    refine zz_icmp_eq (off := 7) (tgt := 12) (q := 8) C (by decide +kernel) (by decide) rfl (fun c5 => ?_) (fun c5 => ?_)
    · refine zz_iconst (q := 13) (n := 0) (x := 0) C (by decide +kernel) rfl (by decide +kernel) ?_
      refine zz_zret C hr hlk (by decide +kernel) (by decide) hQ (by decide) (by decide) ?_
      first | exact zz_b1 (P := fun x => post (some (zz_i x)) h) hp c5 | exact zz_b0 (P := fun x => post (some (zz_i x)) h) hp (fun z => z c5)
    · refine zz_iconst (q := 9) (n := 1) (x := 1) C (by decide +kernel) rfl (by decide +kernel) ?_
      refine zz_goto (off := 4) (tgt := 13) C (by decide +kernel) (by decide) ?_
      refine zz_zret C hr hlk (by decide +kernel) (by decide) hQ (by decide) (by decide) ?_
      first | exact zz_b1 (P := fun x => post (some (zz_i x)) h) hp c5 | exact zz_b0 (P := fun x => post (some (zz_i x)) h) hp (fun z => z c5)

def T_K_rootKind : zz_Tr := fun as h post => ∃ a, as = [zz_r 1 (some a)] ∧ post (some (zz_r 1 (some (kd_root h 3 a)))) h
set_option maxRecDepth 100000 in
set_option maxHeartbeats 4000000 in
theorem m_K_rootKind (l : Launch) : zz_Met l y_K_rootKind w_K_rootKind { frames := 1, cells := 0, slots := 0, locals := 12 } T_K_rootKind := by
  refine zz_ofZ (by decide) (fun as h post hT => ?_) ?_
  · obtain ⟨a, rfl, hp⟩ := hT
    exact ⟨by simp [zz_cat], by simp⟩
  · intro D DA h as post hT p e s m args below meth c Q C hr hlk hnm hQ
    obtain ⟨a, rfl, hp⟩ := hT
    have lp4 : ∀ n o, n ≤ 3 → post (some (zz_r 1 (some (kd_root h n o)))) h → zz_Z p l e { frames := 1, cells := 0, slots := 0, locals := 12 } s m args below meth c Q D DA (zz_A h s.heap.size) h 3 4 [some (zz_r 1 (some a)), some (zz_r 1 (some o)), some (zz_i (nI (4 - n)))] [] h 0 0 := by
      intro n
      induction n with
      | zero =>
        intro o hn hp
        refine zz_iload_n (q := 5) (f := 2) (i := 2) C (by decide +kernel) rfl rfl rfl ?_
        refine zz_iconst (q := 6) (n := 4) (x := 4) C (by decide +kernel) rfl (by decide +kernel) ?_
        refine zz_icmp_ge (off := 21) (tgt := 27) (q := 9) C (by decide +kernel) (by decide) rfl (fun c6 => ?_) (fun c6 => absurd (by decide) c6)
        refine zz_aload_n (q := 28) (f := 1) (i := 1) C (by decide +kernel) rfl rfl rfl ?_
        exact zz_aret C hr (Or.inl ⟨_, rfl⟩) hlk (by decide +kernel) hQ (by decide) (by decide) hp
      | succ n ih =>
        intro o hn hp
        have e1 : 4 - (n + 1) = 3 - n := by omega
        have e2 : (nI (4 - (n + 1)) : Int32) + Int32.ofInt 1 = nI (4 - n) := by
          rw [show 4 - n = (4 - (n + 1)) + 1 by omega]
          exact (nI_succ _).symm
        refine zz_iload_n (q := 5) (f := 2) (i := 2) C (by decide +kernel) rfl rfl rfl ?_
        refine zz_iconst (q := 6) (n := 4) (x := 4) C (by decide +kernel) rfl (by decide +kernel) ?_
        refine zz_icmp_ge (off := 21) (tgt := 27) (q := 9) C (by decide +kernel) (by decide) rfl (fun c6 => ?_) (fun c6 => ?_)
        · refine zz_aload_n (q := 28) (f := 1) (i := 1) C (by decide +kernel) rfl rfl rfl ?_
          refine zz_aret C hr (Or.inl ⟨_, rfl⟩) hlk (by decide +kernel) hQ (by decide) (by decide) ?_
          first | (exfalso; exact nI_ge (a := 4 - (n + 1)) (b := 4) (by omega) (by decide) c6) | (simp only [kd_root, c13] at hp; exact hp)
        · refine zz_aload_n (q := 10) (f := 1) (i := 1) C (by decide +kernel) rfl rfl rfl ?_
          refine zz_getR (q := 13) C gf_K_15 (by decide +kernel) rfl (by first | rfl | assumption) rfl ?_
          refine zz_ifnull (off := 14) (tgt := 27) (q := 16) C (by decide +kernel) (by decide) rfl (fun c13 => ?_) (fun a13 c13 => ?_)
          · refine zz_aload_n (q := 28) (f := 1) (i := 1) C (by decide +kernel) rfl rfl rfl ?_
            refine zz_aret C hr (Or.inl ⟨_, rfl⟩) hlk (by decide +kernel) hQ (by decide) (by decide) ?_
            first | (exfalso; exact nI_ge (a := 4 - (n + 1)) (b := 4) (by omega) (by decide) c6) | (simp only [kd_root, c13] at hp; exact hp)
          · refine zz_aload_n (q := 17) (f := 1) (i := 1) C (by decide +kernel) rfl rfl rfl ?_
            refine zz_getR (q := 20) C gf_K_15 (by decide +kernel) rfl (by first | rfl | assumption) c13 ?_
            refine zz_astore_n (q := 21) (f := 1) (i := 1) C (by decide +kernel) rfl rfl (by decide) rfl ?_
            refine zz_iinc (q := 24) (i := 2) (n := 1) C (by decide +kernel) rfl rfl e2 (by decide) rfl ?_
            refine zz_goto (off := -20) (tgt := 4) C (by decide +kernel) (by decide) ?_
            -- AT 4
            simp only [kd_root, c13] at hp
            exact ih a13 (by omega) hp
    refine zz_aload_n (q := 1) (f := 0) (i := 0) C (by decide +kernel) rfl rfl rfl ?_
    refine zz_astore_n (q := 2) (f := 1) (i := 1) C (by decide +kernel) rfl rfl (by decide) rfl ?_
    refine zz_iconst (q := 3) (n := 1) (x := 1) C (by decide +kernel) rfl (by decide +kernel) ?_
    refine zz_istore_n (q := 4) (f := 2) (i := 2) C (by decide +kernel) rfl rfl (by decide) rfl ?_
    -- AT 4
    exact lp4 3 a (by omega) hp
end
section
/-! Segment: what is read of one, and what holds of all -/
def kd_ok (h : zz_H) (k : Nat) : Prop := (zz_fI h 1 4 k = -1 ∨ ∃ j, j < 4 ∧ zz_fI h 1 4 k = nI j) ∧ ∃ n, n ≤ 4 ∧ zz_fI h 1 3 k = nI n
def kd_wf (h : zz_H) : Prop := ∀ k n, zz_tg h k = some (1, n) → kd_ok h k
def sg_k (h : zz_H) (a : Nat) : Nat := (zz_fR h 2 1 a).getD 0
def sg_w (h : zz_H) (a : Nat) : Nat := (zz_fR h 2 3 a).getD 0
def sg_ok (h : zz_H) (a : Nat) : Prop := zz_fR h 2 1 a = some (sg_k h a) ∧ zz_fR h 2 3 a = some (sg_w h a) ∧ zz_tg h (sg_w h a) = some (90, 4) ∧ (zz_fI h 2 5 a = 0 ∨ zz_fI h 2 5 a = 1)
def sg_wf (h : zz_H) : Prop := ∀ a n, zz_tg h a = some (2, n) → sg_ok h a
def sg_lv (h : zz_H) (a : Nat) : Int32 := zz_fI h 1 2 (sg_k h a)
/-- the place of the sequence word -/
def kd_sq (h : zz_H) (k : Nat) : Nat := (zz_fI h 1 4 k).toNatClampNeg
def kd_ln (h : zz_H) (k : Nat) : Nat := (zz_fI h 1 3 k).toNatClampNeg
theorem kd_sq_eq {h : zz_H} {k : Nat} (hk : kd_ok h k) (hn : zz_fI h 1 4 k ≠ -1) : kd_sq h k < 4 ∧ zz_fI h 1 4 k = nI (kd_sq h k) := by
  rcases hk.1 with e | ⟨j, hj, e⟩
  · exact absurd e hn
  · have : kd_sq h k = j := by rw [kd_sq, e, nI_clamp (by omega)]
    rw [this]
    exact ⟨hj, e⟩
theorem kd_ln_eq {h : zz_H} {k : Nat} (hk : kd_ok h k) : kd_ln h k ≤ 4 ∧ zz_fI h 1 3 k = nI (kd_ln h k) := by
  obtain ⟨-, n, hn, e⟩ := hk
  have : kd_ln h k = n := by rw [kd_ln, e, nI_clamp (by omega)]
  rw [this]
  exact ⟨hn, e⟩
/-- up the chain of parents, while the level is below -/
def sg_up (h : zz_H) (lv : Int32) : Nat → Nat → Nat
  | 0, a => a
  | n + 1, a => if sg_lv h a ≤ lv then a else match zz_fR h 2 2 a with
    | none => a
    | some b => sg_up h lv n b
theorem sg_up_le {h : zz_H} {lv : Int32} {n o : Nat} (hl : sg_lv h o ≤ lv) : sg_up h lv n o = o := by cases n <;> simp [sg_up, hl]
theorem sg_up_no {h : zz_H} {lv : Int32} {n o : Nat} (hp : zz_fR h 2 2 o = none) : sg_up h lv n o = o := by cases n <;> simp [sg_up, hp]
theorem sg_up_go {h : zz_H} {lv : Int32} {n o b : Nat} (hl : ¬ sg_lv h o ≤ lv) (hp : zz_fR h 2 2 o = some b) : sg_up h lv (n + 1) o = sg_up h lv n b := by simp [sg_up, hl, hp]
def sg_at (h : zz_H) (lv : Int32) (a : Nat) : Option Nat := if sg_lv h (sg_up h lv 3 a) = lv then some (sg_up h lv 3 a) else none
def T_S_takeWords : zz_Tr := fun as h post => ∃ a b, as = [zz_r 2 (some a), zz_r 90 (some b)] ∧ sg_ok h a ∧ kd_ok h (sg_k h a) ∧ zz_tg h b = some (90, 4) ∧ post none (zz_uI h (sg_w h a) (fun j => if j < kd_ln h (sg_k h a) then zz_aI h b j else zz_aI h (sg_w h a) j))
set_option maxRecDepth 100000 in
set_option maxHeartbeats 4000000 in
theorem m_S_takeWords (l : Launch) : zz_Met l y_S_takeWords w_S_takeWords { frames := 1, cells := 0, slots := 0, locals := 40 } T_S_takeWords := by
  refine zz_ofZ (by decide) (fun as h post hT => ?_) ?_
  · obtain ⟨a, b, rfl, hok, hkd, htb, hp⟩ := hT
    exact ⟨by simp [zz_cat], by simp⟩
  · intro D DA h as post hT p e s m args below meth c Q C hr hlk hnm hQ
    obtain ⟨a, b, rfl, hok, hkd, htb, hp⟩ := hT
    refine zz_aload_n (q := 1) (f := 1) (i := 1) C (by decide +kernel) rfl rfl rfl ?_
    refine zz_iconst (q := 2) (n := 0) (x := 0) C (by decide +kernel) rfl (by decide +kernel) ?_
    refine zz_aload_n (q := 3) (f := 0) (i := 0) C (by decide +kernel) rfl rfl rfl ?_
    refine zz_getR (q := 6) C gf_S_9 (by decide +kernel) rfl (by first | rfl | assumption) hok.2.1 ?_
    refine zz_iconst (q := 7) (n := 0) (x := 0) C (by decide +kernel) rfl (by decide +kernel) ?_
    refine zz_aload_n (q := 8) (f := 0) (i := 0) C (by decide +kernel) rfl rfl rfl ?_
    refine zz_getR (q := 11) C gf_S_19 (by decide +kernel) rfl (by first | rfl | assumption) hok.1 ?_
    refine zz_getI (q := 14) C gf_S_27 (by decide +kernel) rfl (by first | rfl | assumption) (kd_ln_eq hkd).2 ?_
    refine zz_copyI (q := 17) (k := kd_ln h (sg_k h a)) C al_S_32 zw_an zw_as zw_ai (by decide +kernel) rfl rfl rfl htb hok.2.2.1 rfl (kd_ln_eq hkd).1 (kd_ln_eq hkd).1 (by have := (kd_ln_eq hkd).1; omega) (by decide) (by decide +kernel) ?_
    refine zz_vret C hr hlk (by decide +kernel) hQ (by decide) (by decide) ?_
    exact hp

def T_S_hasSequenceOf : zz_Tr := fun as h post => ∃ a b, as = [zz_r 2 (some a), zz_r 90 (some b)] ∧ sg_ok h a ∧ kd_ok h (sg_k h a) ∧ zz_tg h b = some (90, 4) ∧ post (some (zz_i (zz_b (zz_fI h 1 4 (sg_k h a) ≠ -1 ∧ zz_aI h (sg_w h a) (kd_sq h (sg_k h a)) = zz_aI h b (kd_sq h (sg_k h a)))))) h
set_option maxRecDepth 100000 in
set_option maxHeartbeats 4000000 in
theorem m_S_hasSequenceOf (l : Launch) : zz_Met l y_S_hasSequenceOf w_S_hasSequenceOf { frames := 2, cells := 0, slots := 0, locals := 32 } T_S_hasSequenceOf := by
  refine zz_ofZ (by decide) (fun as h post hT => ?_) ?_
  · obtain ⟨a, b, rfl, hok, hkd, htb, hp⟩ := hT
    exact ⟨by simp [zz_cat], by simp⟩
  · intro D DA h as post hT p e s m args below meth c Q C hr hlk hnm hQ
    obtain ⟨a, b, rfl, hok, hkd, htb, hp⟩ := hT
    refine zz_aload_n (q := 1) (f := 0) (i := 0) C (by decide +kernel) rfl rfl rfl ?_
    refine zz_getR (q := 4) C gf_S_19 (by decide +kernel) rfl (by first | rfl | assumption) hok.1 ?_
    refine zz_callV (q := 7) C (m_K_hasSequence l) cv_S_38 (by decide +kernel) rfl rfl rfl (by first | rfl | assumption) (by decide) (by decide) (by decide) ⟨_, rfl, ?_⟩
    refine zz_if_eq (off := 31) (tgt := 38) (q := 10) C (by decide +kernel) (by decide) rfl (fun c7 => ?_) (fun c7 => ?_)
    · refine zz_iconst (q := 39) (n := 0) (x := 0) C (by decide +kernel) rfl (by decide +kernel) ?_
      refine zz_zret C hr hlk (by decide +kernel) (by decide) hQ (by decide) (by decide) ?_
      first | exact zz_b1 (P := fun x => post (some (zz_i x)) h) hp ⟨hne, c31⟩ | exact zz_b0 (P := fun x => post (some (zz_i x)) h) hp (fun z => c31 z.2) | exact zz_b0 (P := fun x => post (some (zz_i x)) h) hp (fun z => zz_b_f c7 z.1)
    · have hne : zz_fI h 1 4 (sg_k h a) ≠ -1 := zz_b_t c7
      refine zz_aload_n (q := 11) (f := 0) (i := 0) C (by decide +kernel) rfl rfl rfl ?_
      refine zz_getR (q := 14) C gf_S_9 (by decide +kernel) rfl (by first | rfl | assumption) hok.2.1 ?_
      refine zz_aload_n (q := 15) (f := 0) (i := 0) C (by decide +kernel) rfl rfl rfl ?_
      refine zz_getR (q := 18) C gf_S_19 (by decide +kernel) rfl (by first | rfl | assumption) hok.1 ?_
      refine zz_getI (q := 21) C gf_S_42 (by decide +kernel) rfl (by first | rfl | assumption) (kd_sq_eq hkd hne).2 ?_
      refine zz_iaload (q := 22) C (by decide +kernel) rfl rfl hok.2.2.1 rfl (kd_sq_eq hkd hne).1 (by decide) rfl ?_
      refine zz_aload_n (q := 23) (f := 1) (i := 1) C (by decide +kernel) rfl rfl rfl ?_
      refine zz_aload_n (q := 24) (f := 0) (i := 0) C (by decide +kernel) rfl rfl rfl ?_
      refine zz_getR (q := 27) C gf_S_19 (by decide +kernel) rfl (by first | rfl | assumption) hok.1 ?_
      refine zz_getI (q := 30) C gf_S_42 (by decide +kernel) rfl (by first | rfl | assumption) (kd_sq_eq hkd hne).2 ?_
      refine zz_iaload (q := 31) C (by decide +kernel) rfl rfl htb rfl (kd_sq_eq hkd hne).1 (by decide) rfl ?_
      refine zz_icmp_ne (off := 7) (tgt := 38) (q := 34) C (by decide +kernel) (by decide) rfl (fun c31 => ?_) (fun c31 => ?_)
      · refine zz_iconst (q := 39) (n := 0) (x := 0) C (by decide +kernel) rfl (by decide +kernel) ?_
        refine zz_zret C hr hlk (by decide +kernel) (by decide) hQ (by decide) (by decide) ?_
        first | exact zz_b1 (P := fun x => post (some (zz_i x)) h) hp ⟨hne, c31⟩ | exact zz_b0 (P := fun x => post (some (zz_i x)) h) hp (fun z => c31 z.2) | exact zz_b0 (P := fun x => post (some (zz_i x)) h) hp (fun z => zz_b_f c7 z.1)
      · refine zz_iconst (q := 35) (n := 1) (x := 1) C (by decide +kernel) rfl (by decide +kernel) ?_
        refine zz_goto (off := 4) (tgt := 39) C (by decide +kernel) (by decide) ?_
        refine zz_zret C hr hlk (by decide +kernel) (by decide) hQ (by decide) (by decide) ?_
        first | exact zz_b1 (P := fun x => post (some (zz_i x)) h) hp ⟨hne, c31⟩ | exact zz_b0 (P := fun x => post (some (zz_i x)) h) hp (fun z => c31 z.2) | exact zz_b0 (P := fun x => post (some (zz_i x)) h) hp (fun z => zz_b_f c7 z.1)

def T_S_atLevel : zz_Tr := fun as h post => ∃ a lv, as = [zz_r 2 (some a), zz_i lv] ∧ sg_wf h ∧ post (some (zz_r 2 (sg_at h lv a))) h
set_option maxRecDepth 100000 in
set_option maxHeartbeats 4000000 in
theorem m_S_atLevel (l : Launch) : zz_Met l y_S_atLevel w_S_atLevel { frames := 1, cells := 0, slots := 0, locals := 12 } T_S_atLevel := by
  refine zz_ofZ (by decide) (fun as h post hT => ?_) ?_
  · obtain ⟨a, lv, rfl, hwf, hp⟩ := hT
    exact ⟨by simp [zz_cat], by simp⟩
  · intro D DA h as post hT p e s m args below meth c Q C hr hlk hnm hQ
    obtain ⟨a, lv, rfl, hwf, hp⟩ := hT
    refine zz_know (fun hty _ hTL _ => ?_)
    obtain ⟨na, hta⟩ := hTL 0 _ rfl a rfl
    have hta : zz_tg h a = some (2, na) := hta
    have lp38 : ∀ o (i : Int32), (∃ no, zz_tg h o = some (2, no)) → post (some (zz_r 2 (if sg_lv h o = lv then some o else none))) h → zz_Z p l e { frames := 1, cells := 0, slots := 0, locals := 12 } s m args below meth c Q D DA (zz_A h s.heap.size) h 4 38 [some (zz_r 2 (some a)), some (zz_i lv), some (zz_r 2 (some o)), some (zz_i i)] [] h 0 0 := by
      rintro o i ⟨no, hto⟩ hp
      have hok := hwf o no hto
      refine zz_aload_n (q := 39) (f := 2) (i := 2) C (by decide +kernel) rfl rfl rfl ?_
      refine zz_getR (q := 42) C gf_S_19 (by decide +kernel) rfl (by first | rfl | assumption) hok.1 ?_
      refine zz_getI (q := 45) C gf_S_45 (by decide +kernel) rfl (by first | rfl | assumption) rfl ?_
      refine zz_iload_n (q := 46) (f := 1) (i := 1) C (by decide +kernel) rfl rfl rfl ?_
      refine zz_icmp_ne (off := 7) (tgt := 53) (q := 49) C (by decide +kernel) (by decide) rfl (fun c46 => ?_) (fun c46 => ?_)
      · refine zz_null (q := 54) C 2 (by decide +kernel) rfl ?_
        refine zz_aret C hr (Or.inl ⟨_, rfl⟩) hlk (by decide +kernel) hQ (by decide) (by decide) ?_
        first | (rw [if_pos (show sg_lv h o = lv from c46)] at hp; exact hp) | (rw [if_neg (show ¬ sg_lv h o = lv from c46)] at hp; exact hp)
      · refine zz_aload_n (q := 50) (f := 2) (i := 2) C (by decide +kernel) rfl rfl rfl ?_
        refine zz_goto (off := 4) (tgt := 54) C (by decide +kernel) (by decide) ?_
        refine zz_aret C hr (Or.inl ⟨_, rfl⟩) hlk (by decide +kernel) hQ (by decide) (by decide) ?_
        first | (rw [if_pos (show sg_lv h o = lv from c46)] at hp; exact hp) | (rw [if_neg (show ¬ sg_lv h o = lv from c46)] at hp; exact hp)
    have lp4 : ∀ n o, (∃ no, zz_tg h o = some (2, no)) → n ≤ 3 → post (some (zz_r 2 (if sg_lv h (sg_up h lv n o) = lv then some (sg_up h lv n o) else none))) h → zz_Z p l e { frames := 1, cells := 0, slots := 0, locals := 12 } s m args below meth c Q D DA (zz_A h s.heap.size) h 4 4 [some (zz_r 2 (some a)), some (zz_i lv), some (zz_r 2 (some o)), some (zz_i (nI (4 - n)))] [] h 0 0 := by
      intro n
      induction n with
      | zero =>
        intro o ho hn hp
        refine zz_iload_n (q := 5) (f := 3) (i := 3) C (by decide +kernel) rfl rfl rfl ?_
        refine zz_iconst (q := 6) (n := 4) (x := 4) C (by decide +kernel) rfl (by decide +kernel) ?_
        refine zz_icmp_ge (off := 32) (tgt := 38) (q := 9) C (by decide +kernel) (by decide) rfl (fun c6 => ?_) (fun c6 => absurd (by decide) c6)
        exact lp38 o _ ho hp
      | succ n ih =>
        intro o ho hn hp
        obtain ⟨no, hto⟩ := ho
        have hok := hwf o no hto
        have e2 : (nI (4 - (n + 1)) : Int32) + Int32.ofInt 1 = nI (4 - n) := by
          rw [show 4 - n = (4 - (n + 1)) + 1 by omega]
          exact (nI_succ _).symm
        refine zz_iload_n (q := 5) (f := 3) (i := 3) C (by decide +kernel) rfl rfl rfl ?_
        refine zz_iconst (q := 6) (n := 4) (x := 4) C (by decide +kernel) rfl (by decide +kernel) ?_
        refine zz_icmp_ge (off := 32) (tgt := 38) (q := 9) C (by decide +kernel) (by decide) rfl (fun c6 => ?_) (fun c6 => ?_)
        · -- AT 38
          first | exact absurd c6 (nI_ge (a := 4 - (n + 1)) (b := 4) (by omega) (by decide)) | exact lp38 o _ ⟨no, hto⟩ (by rw [sg_up_le (show sg_lv h o ≤ lv from c17)] at hp; exact hp) | exact lp38 o _ ⟨no, hto⟩ (by rw [sg_up_no c24] at hp; exact hp)
        · refine zz_aload_n (q := 10) (f := 2) (i := 2) C (by decide +kernel) rfl rfl rfl ?_
          refine zz_getR (q := 13) C gf_S_19 (by decide +kernel) rfl (by first | rfl | assumption) hok.1 ?_
          refine zz_getI (q := 16) C gf_S_45 (by decide +kernel) rfl (by first | rfl | assumption) rfl ?_
          refine zz_iload_n (q := 17) (f := 1) (i := 1) C (by decide +kernel) rfl rfl rfl ?_
          refine zz_icmp_le (off := 21) (tgt := 38) (q := 20) C (by decide +kernel) (by decide) rfl (fun c17 => ?_) (fun c17 => ?_)
          · -- AT 38
            first | exact absurd c6 (nI_ge (a := 4 - (n + 1)) (b := 4) (by omega) (by decide)) | exact lp38 o _ ⟨no, hto⟩ (by rw [sg_up_le (show sg_lv h o ≤ lv from c17)] at hp; exact hp) | exact lp38 o _ ⟨no, hto⟩ (by rw [sg_up_no c24] at hp; exact hp)
          · refine zz_aload_n (q := 21) (f := 2) (i := 2) C (by decide +kernel) rfl rfl rfl ?_
            refine zz_getR (q := 24) C gf_S_23 (by decide +kernel) rfl (by first | rfl | assumption) rfl ?_
            refine zz_ifnull (off := 14) (tgt := 38) (q := 27) C (by decide +kernel) (by decide) rfl (fun c24 => ?_) (fun a24 c24 => ?_)
            · -- AT 38
              first | exact absurd c6 (nI_ge (a := 4 - (n + 1)) (b := 4) (by omega) (by decide)) | exact lp38 o _ ⟨no, hto⟩ (by rw [sg_up_le (show sg_lv h o ≤ lv from c17)] at hp; exact hp) | exact lp38 o _ ⟨no, hto⟩ (by rw [sg_up_no c24] at hp; exact hp)
            · refine zz_aload_n (q := 28) (f := 2) (i := 2) C (by decide +kernel) rfl rfl rfl ?_
              refine zz_getR (q := 31) C gf_S_23 (by decide +kernel) rfl (by first | rfl | assumption) c24 ?_
              refine zz_astore_n (q := 32) (f := 2) (i := 2) C (by decide +kernel) rfl rfl (by decide) rfl ?_
              refine zz_iinc (q := 35) (i := 3) (n := 1) C (by decide +kernel) rfl rfl e2 (by decide) rfl ?_
              refine zz_goto (off := -31) (tgt := 4) C (by decide +kernel) (by decide) ?_
              -- AT 4
              have hb : ∃ nb, zz_tg h a24 = some (2, nb) := hty.1 o 2 no 2 2 hto (by decide) rfl a24 c24
              exact ih a24 hb (by omega) (by rw [sg_up_go (show ¬ sg_lv h o ≤ lv from c17) c24] at hp; exact hp)
    refine zz_aload_n (q := 1) (f := 0) (i := 0) C (by decide +kernel) rfl rfl rfl ?_
    refine zz_astore_n (q := 2) (f := 2) (i := 2) C (by decide +kernel) rfl rfl (by decide) rfl ?_
    refine zz_iconst (q := 3) (n := 1) (x := 1) C (by decide +kernel) rfl (by decide +kernel) ?_
    refine zz_istore_n (q := 4) (f := 3) (i := 3) C (by decide +kernel) rfl rfl (by decide) rfl ?_
    -- AT 4
    exact lp4 3 a ⟨na, hta⟩ (by omega) hp

def T_S_isInTreeOf : zz_Tr := fun as h post => ∃ a t, as = [zz_r 2 (some a), zz_r 2 (some t)] ∧ sg_wf h ∧ post (some (zz_i (zz_b (sg_at h (sg_lv h t) a = some t)))) h
set_option maxRecDepth 100000 in
set_option maxHeartbeats 4000000 in
theorem m_S_isInTreeOf (l : Launch) : zz_Met l y_S_isInTreeOf w_S_isInTreeOf { frames := 2, cells := 0, slots := 0, locals := 35 } T_S_isInTreeOf := by
  refine zz_ofZ (by decide) (fun as h post hT => ?_) ?_
  · obtain ⟨a, t, rfl, hwf, hp⟩ := hT
    exact ⟨by simp [zz_cat], by simp⟩
  · intro D DA h as post hT p e s m args below meth c Q C hr hlk hnm hQ
    obtain ⟨a, t, rfl, hwf, hp⟩ := hT
    refine zz_know (fun hty _ hTL _ => ?_)
    obtain ⟨nt, htt⟩ := hTL 1 _ rfl t rfl
    have hok := hwf t nt htt
    refine zz_aload_n (q := 1) (f := 0) (i := 0) C (by decide +kernel) rfl rfl rfl ?_
    refine zz_aload_n (q := 2) (f := 1) (i := 1) C (by decide +kernel) rfl rfl rfl ?_
    refine zz_getR (q := 5) C gf_S_19 (by decide +kernel) rfl (by first | rfl | assumption) hok.1 ?_
    refine zz_getI (q := 8) C gf_S_45 (by decide +kernel) rfl (by first | rfl | assumption) rfl ?_
    refine zz_callV (q := 11) C (m_S_atLevel l) cv_S_48 (by decide +kernel) rfl rfl rfl (by first | rfl | assumption) (by decide) (by decide) (by decide) ⟨_, _, rfl, hwf, ?_⟩
    refine zz_aload_n (q := 12) (f := 1) (i := 1) C (by decide +kernel) rfl rfl rfl ?_
    refine zz_acmp_ne (off := 7) (tgt := 19) (q := 15) C (by decide +kernel) (by decide) rfl (fun c12 => ?_) (fun c12 => ?_)
    · refine zz_iconst (q := 20) (n := 0) (x := 0) C (by decide +kernel) rfl (by decide +kernel) ?_
      refine zz_zret C hr hlk (by decide +kernel) (by decide) hQ (by decide) (by decide) ?_
      first | exact zz_b1 (P := fun x => post (some (zz_i x)) h) hp c12 | exact zz_b0 (P := fun x => post (some (zz_i x)) h) hp c12
    · refine zz_iconst (q := 16) (n := 1) (x := 1) C (by decide +kernel) rfl (by decide +kernel) ?_
      refine zz_goto (off := 4) (tgt := 20) C (by decide +kernel) (by decide) ?_
      refine zz_zret C hr hlk (by decide +kernel) (by decide) hQ (by decide) (by decide) ?_
      first | exact zz_b1 (P := fun x => post (some (zz_i x)) h) hp c12 | exact zz_b0 (P := fun x => post (some (zz_i x)) h) hp c12

def T_S_isBelow : zz_Tr := fun as h post => ∃ a t, as = [zz_r 2 (some a), zz_r 2 (some t)] ∧ sg_wf h ∧ post (some (zz_i (zz_b (a ≠ t ∧ sg_at h (sg_lv h t) a = some t)))) h
set_option maxRecDepth 100000 in
set_option maxHeartbeats 4000000 in
theorem m_S_isBelow (l : Launch) : zz_Met l y_S_isBelow w_S_isBelow { frames := 3, cells := 0, slots := 0, locals := 56 } T_S_isBelow := by
  refine zz_ofZ (by decide) (fun as h post hT => ?_) ?_
  · obtain ⟨a, t, rfl, hwf, hp⟩ := hT
    exact ⟨by simp [zz_cat], by simp⟩
  · intro D DA h as post hT p e s m args below meth c Q C hr hlk hnm hQ
    obtain ⟨a, t, rfl, hwf, hp⟩ := hT
    refine zz_aload_n (q := 1) (f := 0) (i := 0) C (by decide +kernel) rfl rfl rfl ?_
    refine zz_aload_n (q := 2) (f := 1) (i := 1) C (by decide +kernel) rfl rfl rfl ?_
    refine zz_acmp_eq (off := 15) (tgt := 17) (q := 5) C (by decide +kernel) (by decide) rfl (fun c2 => ?_) (fun c2 => ?_)
    · refine zz_iconst (q := 18) (n := 0) (x := 0) C (by decide +kernel) rfl (by decide +kernel) ?_
      refine zz_zret C hr hlk (by decide +kernel) (by decide) hQ (by decide) (by decide) ?_
      first | exact zz_b0 (P := fun x => post (some (zz_i x)) h) hp (fun z => z.1 (Option.some.inj c2)) | exact zz_b0 (P := fun x => post (some (zz_i x)) h) hp (fun z => zz_b_f c10 z.2) | exact zz_b1 (P := fun x => post (some (zz_i x)) h) hp ⟨fun z => c2 (by rw [z]), zz_b_t c10⟩
    · refine zz_aload_n (q := 6) (f := 0) (i := 0) C (by decide +kernel) rfl rfl rfl ?_
      refine zz_aload_n (q := 7) (f := 1) (i := 1) C (by decide +kernel) rfl rfl rfl ?_
      refine zz_callV (q := 10) C (m_S_isInTreeOf l) cv_S_52 (by decide +kernel) rfl rfl rfl (by first | rfl | assumption) (by decide) (by decide) (by decide) ⟨_, _, rfl, hwf, ?_⟩
      refine zz_if_eq (off := 7) (tgt := 17) (q := 13) C (by decide +kernel) (by decide) rfl (fun c10 => ?_) (fun c10 => ?_)
      · refine zz_iconst (q := 18) (n := 0) (x := 0) C (by decide +kernel) rfl (by decide +kernel) ?_
        refine zz_zret C hr hlk (by decide +kernel) (by decide) hQ (by decide) (by decide) ?_
        first | exact zz_b0 (P := fun x => post (some (zz_i x)) h) hp (fun z => z.1 (Option.some.inj c2)) | exact zz_b0 (P := fun x => post (some (zz_i x)) h) hp (fun z => zz_b_f c10 z.2) | exact zz_b1 (P := fun x => post (some (zz_i x)) h) hp ⟨fun z => c2 (by rw [z]), zz_b_t c10⟩
      · refine zz_iconst (q := 14) (n := 1) (x := 1) C (by decide +kernel) rfl (by decide +kernel) ?_
        refine zz_goto (off := 4) (tgt := 18) C (by decide +kernel) (by decide) ?_
        refine zz_zret C hr hlk (by decide +kernel) (by decide) hQ (by decide) (by decide) ?_
        first | exact zz_b0 (P := fun x => post (some (zz_i x)) h) hp (fun z => z.1 (Option.some.inj c2)) | exact zz_b0 (P := fun x => post (some (zz_i x)) h) hp (fun z => zz_b_f c10 z.2) | exact zz_b1 (P := fun x => post (some (zz_i x)) h) hp ⟨fun z => c2 (by rw [z]), zz_b_t c10⟩

def T_S_clearValue : zz_Tr := fun as h post => ∃ a, as = [zz_r 2 (some a)] ∧ post none (zz_pI (zz_pI h 2 5 a 0) 2 6 a 0)
set_option maxRecDepth 100000 in
set_option maxHeartbeats 4000000 in
theorem m_S_clearValue (l : Launch) : zz_Met l y_S_clearValue w_S_clearValue { frames := 1, cells := 0, slots := 0, locals := 12 } T_S_clearValue := by
  refine zz_ofZ (by decide) (fun as h post hT => ?_) ?_
  · obtain ⟨a, rfl, hp⟩ := hT
    exact ⟨by simp [zz_cat], by simp⟩
  · intro D DA h as post hT p e s m args below meth c Q C hr hlk hnm hQ
    obtain ⟨a, rfl, hp⟩ := hT
    refine zz_aload_n (q := 1) (f := 0) (i := 0) C (by decide +kernel) rfl rfl rfl ?_
    refine zz_iconst (q := 2) (n := 0) (x := 0) C (by decide +kernel) rfl (by decide +kernel) ?_
    refine zz_putI (q := 5) C gf_S_56 (fun h => by cases h) (fun _ => Or.inl rfl) (by decide +kernel) rfl (by first | rfl | assumption) ?_
    refine zz_aload_n (q := 6) (f := 0) (i := 0) C (by decide +kernel) rfl rfl rfl ?_
    refine zz_iconst (q := 7) (n := 0) (x := 0) C (by decide +kernel) rfl (by decide +kernel) ?_
    refine zz_putI (q := 10) C gf_S_60 (fun h => by cases h) (fun h => by cases h) (by decide +kernel) rfl (by first | rfl | assumption) ?_
    refine zz_vret C hr hlk (by decide +kernel) hQ (by decide) (by decide) ?_
    exact hp

def T_S_offerValue : zz_Tr := fun as h post => ∃ a v, as = [zz_r 2 (some a), zz_i v] ∧ post none (if zz_fI h 2 5 a = 0 ∨ v < zz_fI h 2 6 a then zz_pI (zz_pI h 2 5 a 1) 2 6 a v else h)
set_option maxRecDepth 100000 in
set_option maxHeartbeats 4000000 in
theorem m_S_offerValue (l : Launch) : zz_Met l y_S_offerValue w_S_offerValue { frames := 1, cells := 0, slots := 0, locals := 12 } T_S_offerValue := by
  refine zz_ofZ (by decide) (fun as h post hT => ?_) ?_
  · obtain ⟨a, v, rfl, hp⟩ := hT
    exact ⟨by simp [zz_cat], by simp⟩
  · intro D DA h as post hT p e s m args below meth c Q C hr hlk hnm hQ
    obtain ⟨a, v, rfl, hp⟩ := hT
    refine zz_aload_n (q := 1) (f := 0) (i := 0) C (by decide +kernel) rfl rfl rfl ?_
    refine zz_getI (q := 4) C gf_S_56 (by decide +kernel) rfl (by first | rfl | assumption) rfl ?_
    refine zz_if_eq (off := 11) (tgt := 15) (q := 7) C (by decide +kernel) (by decide) rfl (fun c4 => ?_) (fun c4 => ?_)
    · refine zz_aload_n (q := 16) (f := 0) (i := 0) C (by decide +kernel) rfl rfl rfl ?_
      refine zz_iconst (q := 17) (n := 1) (x := 1) C (by decide +kernel) rfl (by decide +kernel) ?_
      refine zz_putI (q := 20) C gf_S_56 (fun h => by cases h) (fun _ => Or.inr rfl) (by decide +kernel) rfl (by first | rfl | assumption) ?_
      refine zz_aload_n (q := 21) (f := 0) (i := 0) C (by decide +kernel) rfl rfl rfl ?_
      refine zz_iload_n (q := 22) (f := 1) (i := 1) C (by decide +kernel) rfl rfl rfl ?_
      refine zz_putI (q := 25) C gf_S_60 (fun h => by cases h) (fun h => by cases h) (by decide +kernel) rfl (by first | rfl | assumption) ?_
      refine zz_vret C hr hlk (by decide +kernel) hQ (by decide) (by decide) ?_
      first | (rw [if_pos (Or.inl c4)] at hp; exact hp) | (rw [if_pos (Or.inr (Int32.not_le.mp c12))] at hp; exact hp) | (rw [if_neg (fun z => z.elim c4 (fun w => Int32.not_le.mpr w c12))] at hp; exact hp)
    · refine zz_iload_n (q := 8) (f := 1) (i := 1) C (by decide +kernel) rfl rfl rfl ?_
      refine zz_aload_n (q := 9) (f := 0) (i := 0) C (by decide +kernel) rfl rfl rfl ?_
      refine zz_getI (q := 12) C gf_S_60 (by decide +kernel) rfl (by first | rfl | assumption) rfl ?_
      refine zz_icmp_ge (off := 13) (tgt := 25) (q := 15) C (by decide +kernel) (by decide) rfl (fun c12 => ?_) (fun c12 => ?_)
      · refine zz_vret C hr hlk (by decide +kernel) hQ (by decide) (by decide) ?_
        first | (rw [if_pos (Or.inl c4)] at hp; exact hp) | (rw [if_pos (Or.inr (Int32.not_le.mp c12))] at hp; exact hp) | (rw [if_neg (fun z => z.elim c4 (fun w => Int32.not_le.mpr w c12))] at hp; exact hp)
      · refine zz_aload_n (q := 16) (f := 0) (i := 0) C (by decide +kernel) rfl rfl rfl ?_
        refine zz_iconst (q := 17) (n := 1) (x := 1) C (by decide +kernel) rfl (by decide +kernel) ?_
        refine zz_putI (q := 20) C gf_S_56 (fun h => by cases h) (fun _ => Or.inr rfl) (by decide +kernel) rfl (by first | rfl | assumption) ?_
        refine zz_aload_n (q := 21) (f := 0) (i := 0) C (by decide +kernel) rfl rfl rfl ?_
        refine zz_iload_n (q := 22) (f := 1) (i := 1) C (by decide +kernel) rfl rfl rfl ?_
        refine zz_putI (q := 25) C gf_S_60 (fun h => by cases h) (fun h => by cases h) (by decide +kernel) rfl (by first | rfl | assumption) ?_
        refine zz_vret C hr hlk (by decide +kernel) hQ (by decide) (by decide) ?_
        first | (rw [if_pos (Or.inl c4)] at hp; exact hp) | (rw [if_pos (Or.inr (Int32.not_le.mp c12))] at hp; exact hp) | (rw [if_neg (fun z => z.elim c4 (fun w => Int32.not_le.mpr w c12))] at hp; exact hp)
end
section
/-! Segment: comparisons; the two constructors -/
/-- in front by the second order -/
def sg_cb (h : zz_H) (a b : Nat) : Prop := (zz_fI h 2 5 a ≠ zz_fI h 2 5 b ∧ zz_fI h 2 5 a = 1) ∨ (zz_fI h 2 5 a = zz_fI h 2 5 b ∧ ((zz_fI h 2 5 a ≠ 0 ∧ zz_fI h 2 6 a ≠ zz_fI h 2 6 b ∧ zz_fI h 2 6 a < zz_fI h 2 6 b) ∨ ((zz_fI h 2 5 a = 0 ∨ zz_fI h 2 6 a = zz_fI h 2 6 b) ∧ zz_fI h 2 0 a < zz_fI h 2 0 b)))
/-- comes in front of a child of the same parent -/
def sg_eb (h : zz_H) (a b : Nat) : Prop := if sg_k h a = sg_k h b then zz_fI h 1 4 (sg_k h a) ≠ -1 ∧ (zz_aI h (sg_w h a) (kd_sq h (sg_k h a)) < zz_aI h (sg_w h b) (kd_sq h (sg_k h a)) ∨ (zz_aI h (sg_w h a) (kd_sq h (sg_k h a)) = zz_aI h (sg_w h b) (kd_sq h (sg_k h a)) ∧ zz_fI h 1 6 (sg_k h a) = 0)) else zz_fI h 1 0 (sg_k h a) < zz_fI h 1 0 (sg_k h b)
def T_S_comesBeforeBySecond : zz_Tr := fun as h post => ∃ a b, as = [zz_r 2 (some a), zz_r 2 (some b)] ∧ (zz_fI h 2 5 a = 0 ∨ zz_fI h 2 5 a = 1) ∧ post (some (zz_i (zz_b (sg_cb h a b)))) h
set_option maxRecDepth 100000 in
set_option maxHeartbeats 4000000 in
theorem m_S_comesBeforeBySecond (l : Launch) : zz_Met l y_S_comesBeforeBySecond w_S_comesBeforeBySecond { frames := 1, cells := 0, slots := 0, locals := 12 } T_S_comesBeforeBySecond := by
  refine zz_ofZ (by decide) (fun as h post hT => ?_) ?_
  · obtain ⟨a, b, rfl, hv, hp⟩ := hT
    exact ⟨by simp [zz_cat], by simp⟩
  · intro D DA h as post hT p e s m args below meth c Q C hr hlk hnm hQ
    obtain ⟨a, b, rfl, hv, hp⟩ := hT
    refine zz_aload_n (q := 1) (f := 0) (i := 0) C (by decide +kernel) rfl rfl rfl ?_
    refine zz_getI (q := 4) C gf_S_56 (by decide +kernel) rfl (by first | rfl | assumption) rfl ?_
    refine zz_aload_n (q := 5) (f := 1) (i := 1) C (by decide +kernel) rfl rfl rfl ?_
    refine zz_getI (q := 8) C gf_S_56 (by decide +kernel) rfl (by first | rfl | assumption) rfl ?_
    refine zz_icmp_eq (off := 8) (tgt := 16) (q := 11) C (by decide +kernel) (by decide) rfl (fun c8 => ?_) (fun c8 => ?_)
    · refine zz_aload_n (q := 17) (f := 0) (i := 0) C (by decide +kernel) rfl rfl rfl ?_
      refine zz_getI (q := 20) C gf_S_56 (by decide +kernel) rfl (by first | rfl | assumption) rfl ?_
      refine zz_if_eq (off := 31) (tgt := 51) (q := 23) C (by decide +kernel) (by decide) rfl (fun c20 => ?_) (fun c20 => ?_)
      · refine zz_aload_n (q := 52) (f := 0) (i := 0) C (by decide +kernel) rfl rfl rfl ?_
        refine zz_getI (q := 55) C gf_S_15 (by decide +kernel) rfl (by first | rfl | assumption) rfl ?_
        refine zz_aload_n (q := 56) (f := 1) (i := 1) C (by decide +kernel) rfl rfl rfl ?_
        refine zz_getI (q := 59) C gf_S_15 (by decide +kernel) rfl (by first | rfl | assumption) rfl ?_
        refine zz_icmp_ge (off := 7) (tgt := 66) (q := 62) C (by decide +kernel) (by decide) rfl (fun c59 => ?_) (fun c59 => ?_)
        · refine zz_iconst (q := 67) (n := 0) (x := 0) C (by decide +kernel) rfl (by decide +kernel) ?_
          refine zz_zret C hr hlk (by decide +kernel) (by decide) hQ (by decide) (by decide) ?_
          first | exact zz_b1 (P := fun x => post (some (zz_i x)) h) hp (Or.inr ⟨c8, Or.inr ⟨Or.inl c20, Int32.not_le.mp c59⟩⟩) | exact zz_b1 (P := fun x => post (some (zz_i x)) h) hp (Or.inr ⟨c8, Or.inr ⟨Or.inr c31, Int32.not_le.mp c59⟩⟩) | exact zz_b0 (P := fun x => post (some (zz_i x)) h) hp (by rintro (⟨z, -⟩ | ⟨-, ⟨z, -⟩ | ⟨-, z⟩⟩); exact z c8; exact z c20; exact Int32.not_le.mpr z c59) | exact zz_b0 (P := fun x => post (some (zz_i x)) h) hp (by rintro (⟨z, -⟩ | ⟨-, ⟨-, z, -⟩ | ⟨-, z⟩⟩); exact z c8; exact z c31; exact Int32.not_le.mpr z c59)
        · refine zz_iconst (q := 63) (n := 1) (x := 1) C (by decide +kernel) rfl (by decide +kernel) ?_
          refine zz_goto (off := 4) (tgt := 67) C (by decide +kernel) (by decide) ?_
          refine zz_zret C hr hlk (by decide +kernel) (by decide) hQ (by decide) (by decide) ?_
          first | exact zz_b1 (P := fun x => post (some (zz_i x)) h) hp (Or.inr ⟨c8, Or.inr ⟨Or.inl c20, Int32.not_le.mp c59⟩⟩) | exact zz_b1 (P := fun x => post (some (zz_i x)) h) hp (Or.inr ⟨c8, Or.inr ⟨Or.inr c31, Int32.not_le.mp c59⟩⟩) | exact zz_b0 (P := fun x => post (some (zz_i x)) h) hp (by rintro (⟨z, -⟩ | ⟨-, ⟨z, -⟩ | ⟨-, z⟩⟩); exact z c8; exact z c20; exact Int32.not_le.mpr z c59) | exact zz_b0 (P := fun x => post (some (zz_i x)) h) hp (by rintro (⟨z, -⟩ | ⟨-, ⟨-, z, -⟩ | ⟨-, z⟩⟩); exact z c8; exact z c31; exact Int32.not_le.mpr z c59)
      · refine zz_aload_n (q := 24) (f := 0) (i := 0) C (by decide +kernel) rfl rfl rfl ?_
        refine zz_getI (q := 27) C gf_S_60 (by decide +kernel) rfl (by first | rfl | assumption) rfl ?_
        refine zz_aload_n (q := 28) (f := 1) (i := 1) C (by decide +kernel) rfl rfl rfl ?_
        refine zz_getI (q := 31) C gf_S_60 (by decide +kernel) rfl (by first | rfl | assumption) rfl ?_
        refine zz_icmp_eq (off := 20) (tgt := 51) (q := 34) C (by decide +kernel) (by decide) rfl (fun c31 => ?_) (fun c31 => ?_)
        · refine zz_aload_n (q := 52) (f := 0) (i := 0) C (by decide +kernel) rfl rfl rfl ?_
          refine zz_getI (q := 55) C gf_S_15 (by decide +kernel) rfl (by first | rfl | assumption) rfl ?_
          refine zz_aload_n (q := 56) (f := 1) (i := 1) C (by decide +kernel) rfl rfl rfl ?_
          refine zz_getI (q := 59) C gf_S_15 (by decide +kernel) rfl (by first | rfl | assumption) rfl ?_
          refine zz_icmp_ge (off := 7) (tgt := 66) (q := 62) C (by decide +kernel) (by decide) rfl (fun c59 => ?_) (fun c59 => ?_)
          · refine zz_iconst (q := 67) (n := 0) (x := 0) C (by decide +kernel) rfl (by decide +kernel) ?_
            refine zz_zret C hr hlk (by decide +kernel) (by decide) hQ (by decide) (by decide) ?_
            first | exact zz_b1 (P := fun x => post (some (zz_i x)) h) hp (Or.inr ⟨c8, Or.inr ⟨Or.inl c20, Int32.not_le.mp c59⟩⟩) | exact zz_b1 (P := fun x => post (some (zz_i x)) h) hp (Or.inr ⟨c8, Or.inr ⟨Or.inr c31, Int32.not_le.mp c59⟩⟩) | exact zz_b0 (P := fun x => post (some (zz_i x)) h) hp (by rintro (⟨z, -⟩ | ⟨-, ⟨z, -⟩ | ⟨-, z⟩⟩); exact z c8; exact z c20; exact Int32.not_le.mpr z c59) | exact zz_b0 (P := fun x => post (some (zz_i x)) h) hp (by rintro (⟨z, -⟩ | ⟨-, ⟨-, z, -⟩ | ⟨-, z⟩⟩); exact z c8; exact z c31; exact Int32.not_le.mpr z c59)
          · refine zz_iconst (q := 63) (n := 1) (x := 1) C (by decide +kernel) rfl (by decide +kernel) ?_
            refine zz_goto (off := 4) (tgt := 67) C (by decide +kernel) (by decide) ?_
            refine zz_zret C hr hlk (by decide +kernel) (by decide) hQ (by decide) (by decide) ?_
            first | exact zz_b1 (P := fun x => post (some (zz_i x)) h) hp (Or.inr ⟨c8, Or.inr ⟨Or.inl c20, Int32.not_le.mp c59⟩⟩) | exact zz_b1 (P := fun x => post (some (zz_i x)) h) hp (Or.inr ⟨c8, Or.inr ⟨Or.inr c31, Int32.not_le.mp c59⟩⟩) | exact zz_b0 (P := fun x => post (some (zz_i x)) h) hp (by rintro (⟨z, -⟩ | ⟨-, ⟨z, -⟩ | ⟨-, z⟩⟩); exact z c8; exact z c20; exact Int32.not_le.mpr z c59) | exact zz_b0 (P := fun x => post (some (zz_i x)) h) hp (by rintro (⟨z, -⟩ | ⟨-, ⟨-, z, -⟩ | ⟨-, z⟩⟩); exact z c8; exact z c31; exact Int32.not_le.mpr z c59)
        · refine zz_aload_n (q := 35) (f := 0) (i := 0) C (by decide +kernel) rfl rfl rfl ?_
          refine zz_getI (q := 38) C gf_S_60 (by decide +kernel) rfl (by first | rfl | assumption) rfl ?_
          refine zz_aload_n (q := 39) (f := 1) (i := 1) C (by decide +kernel) rfl rfl rfl ?_
          refine zz_getI (q := 42) C gf_S_60 (by decide +kernel) rfl (by first | rfl | assumption) rfl ?_
          refine zz_icmp_ge (off := 7) (tgt := 49) (q := 45) C (by decide +kernel) (by decide) rfl (fun c42 => ?_) (fun c42 => ?_)
          · refine zz_iconst (q := 50) (n := 0) (x := 0) C (by decide +kernel) rfl (by decide +kernel) ?_
            refine zz_zret C hr hlk (by decide +kernel) (by decide) hQ (by decide) (by decide) ?_
            first | exact zz_b1 (P := fun x => post (some (zz_i x)) h) hp (Or.inr ⟨c8, Or.inl ⟨c20, c31, Int32.not_le.mp c42⟩⟩) | exact zz_b0 (P := fun x => post (some (zz_i x)) h) hp (by rintro (⟨z, -⟩ | ⟨-, ⟨-, -, z⟩ | ⟨z | z, -⟩⟩); exact z c8; exact Int32.not_le.mpr z c42; exact c20 z; exact c31 z)
          · refine zz_iconst (q := 46) (n := 1) (x := 1) C (by decide +kernel) rfl (by decide +kernel) ?_
            refine zz_goto (off := 4) (tgt := 50) C (by decide +kernel) (by decide) ?_
            refine zz_zret C hr hlk (by decide +kernel) (by decide) hQ (by decide) (by decide) ?_
            first | exact zz_b1 (P := fun x => post (some (zz_i x)) h) hp (Or.inr ⟨c8, Or.inl ⟨c20, c31, Int32.not_le.mp c42⟩⟩) | exact zz_b0 (P := fun x => post (some (zz_i x)) h) hp (by rintro (⟨z, -⟩ | ⟨-, ⟨-, -, z⟩ | ⟨z | z, -⟩⟩); exact z c8; exact Int32.not_le.mpr z c42; exact c20 z; exact c31 z)
    · refine zz_aload_n (q := 12) (f := 0) (i := 0) C (by decide +kernel) rfl rfl rfl ?_
      refine zz_getI (q := 15) C gf_S_56 (by decide +kernel) rfl (by first | rfl | assumption) rfl ?_
      refine zz_zret C hr hlk (by decide +kernel) hv hQ (by decide) (by decide) ?_
      rcases hv with e | e
      · rw [e]
        exact zz_b0 (P := fun x => post (some (zz_i x)) h) hp (by rintro (⟨-, z⟩ | ⟨z, -⟩); exact absurd (e.symm.trans z) (by decide); exact c8 z)
      · rw [e]
        exact zz_b1 (P := fun x => post (some (zz_i x)) h) hp (Or.inl ⟨c8, e⟩)

def T_S_entersBefore : zz_Tr := fun as h post => ∃ a b, as = [zz_r 2 (some a), zz_r 2 (some b)] ∧ sg_ok h a ∧ sg_ok h b ∧ kd_ok h (sg_k h a) ∧ post (some (zz_i (zz_b (sg_eb h a b)))) h
set_option maxRecDepth 100000 in
set_option maxHeartbeats 4000000 in
theorem m_S_entersBefore (l : Launch) : zz_Met l y_S_entersBefore w_S_entersBefore { frames := 2, cells := 0, slots := 0, locals := 32 } T_S_entersBefore := by
  refine zz_ofZ (by decide) (fun as h post hT => ?_) ?_
  · obtain ⟨a, b, rfl, hoa, hob, hkd, hp⟩ := hT
    exact ⟨by simp [zz_cat], by simp⟩
  · intro D DA h as post hT p e s m args below meth c Q C hr hlk hnm hQ
    obtain ⟨a, b, rfl, hoa, hob, hkd, hp⟩ := hT
    refine zz_aload_n (q := 1) (f := 0) (i := 0) C (by decide +kernel) rfl rfl rfl ?_
    refine zz_getR (q := 4) C gf_S_19 (by decide +kernel) rfl (by first | rfl | assumption) hoa.1 ?_
    refine zz_aload_n (q := 5) (f := 1) (i := 1) C (by decide +kernel) rfl rfl rfl ?_
    refine zz_getR (q := 8) C gf_S_19 (by decide +kernel) rfl (by first | rfl | assumption) hob.1 ?_
    refine zz_acmp_eq (off := 26) (tgt := 34) (q := 11) C (by decide +kernel) (by decide) rfl (fun c8 => ?_) (fun c8 => ?_)
    · refine zz_aload_n (q := 35) (f := 0) (i := 0) C (by decide +kernel) rfl rfl rfl ?_
      refine zz_getR (q := 38) C gf_S_19 (by decide +kernel) rfl (by first | rfl | assumption) hoa.1 ?_
      refine zz_callV (q := 41) C (m_K_hasSequence l) cv_S_38 (by decide +kernel) rfl rfl rfl (by first | rfl | assumption) (by decide) (by decide) (by decide) ⟨_, rfl, ?_⟩
      refine zz_if_ne (off := 5) (tgt := 46) (q := 44) C (by decide +kernel) (by decide) rfl (fun c41 => ?_) (fun c41 => ?_)
      · have hne : zz_fI h 1 4 (sg_k h a) ≠ -1 := zz_b_t c41
        have hke : sg_k h a = sg_k h b := Option.some.inj c8
        refine zz_aload_n (q := 47) (f := 0) (i := 0) C (by decide +kernel) rfl rfl rfl ?_
        refine zz_getR (q := 50) C gf_S_9 (by decide +kernel) rfl (by first | rfl | assumption) hoa.2.1 ?_
        refine zz_aload_n (q := 51) (f := 0) (i := 0) C (by decide +kernel) rfl rfl rfl ?_
        refine zz_getR (q := 54) C gf_S_19 (by decide +kernel) rfl (by first | rfl | assumption) hoa.1 ?_
        refine zz_getI (q := 57) C gf_S_42 (by decide +kernel) rfl (by first | rfl | assumption) (kd_sq_eq hkd hne).2 ?_
        refine zz_iaload (q := 58) C (by decide +kernel) rfl rfl hoa.2.2.1 rfl (kd_sq_eq hkd hne).1 (by decide) rfl ?_
        refine zz_istore_n (q := 59) (f := 2) (i := 2) C (by decide +kernel) rfl rfl (by decide) rfl ?_
        refine zz_aload_n (q := 60) (f := 1) (i := 1) C (by decide +kernel) rfl rfl rfl ?_
        refine zz_getR (q := 63) C gf_S_9 (by decide +kernel) rfl (by first | rfl | assumption) hob.2.1 ?_
        refine zz_aload_n (q := 64) (f := 0) (i := 0) C (by decide +kernel) rfl rfl rfl ?_
        refine zz_getR (q := 67) C gf_S_19 (by decide +kernel) rfl (by first | rfl | assumption) hoa.1 ?_
        refine zz_getI (q := 70) C gf_S_42 (by decide +kernel) rfl (by first | rfl | assumption) (kd_sq_eq hkd hne).2 ?_
        refine zz_iaload (q := 71) C (by decide +kernel) rfl rfl hob.2.2.1 rfl (kd_sq_eq hkd hne).1 (by decide) rfl ?_
        refine zz_istore_n (q := 72) (f := 3) (i := 3) C (by decide +kernel) rfl rfl (by decide) rfl ?_
        refine zz_iload_n (q := 73) (f := 2) (i := 2) C (by decide +kernel) rfl rfl rfl ?_
        refine zz_iload_n (q := 74) (f := 3) (i := 3) C (by decide +kernel) rfl rfl rfl ?_
        refine zz_icmp_lt (off := 18) (tgt := 92) (q := 77) C (by decide +kernel) (by decide) rfl (fun c74 => ?_) (fun c74 => ?_)
        · refine zz_iconst (q := 93) (n := 1) (x := 1) C (by decide +kernel) rfl (by decide +kernel) ?_
          refine zz_goto (off := 4) (tgt := 97) C (by decide +kernel) (by decide) ?_
          refine zz_zret C hr hlk (by decide +kernel) (by decide) hQ (by decide) (by decide) ?_
          unfold sg_eb at hp
          simp only [if_pos hke] at hp
          first | exact zz_b1 (P := fun x => post (some (zz_i x)) h) hp ⟨hne, Or.inl c74⟩ | exact zz_b1 (P := fun x => post (some (zz_i x)) h) hp ⟨hne, Or.inr ⟨c79, c89⟩⟩ | exact zz_b0 (P := fun x => post (some (zz_i x)) h) hp (fun z => z.2.elim c74 (fun w => c79 w.1)) | exact zz_b0 (P := fun x => post (some (zz_i x)) h) hp (fun z => z.2.elim c74 (fun w => c89 w.2))
        · refine zz_iload_n (q := 78) (f := 2) (i := 2) C (by decide +kernel) rfl rfl rfl ?_
          refine zz_iload_n (q := 79) (f := 3) (i := 3) C (by decide +kernel) rfl rfl rfl ?_
          refine zz_icmp_ne (off := 17) (tgt := 96) (q := 82) C (by decide +kernel) (by decide) rfl (fun c79 => ?_) (fun c79 => ?_)
          · refine zz_iconst (q := 97) (n := 0) (x := 0) C (by decide +kernel) rfl (by decide +kernel) ?_
            refine zz_zret C hr hlk (by decide +kernel) (by decide) hQ (by decide) (by decide) ?_
            unfold sg_eb at hp
            simp only [if_pos hke] at hp
            first | exact zz_b1 (P := fun x => post (some (zz_i x)) h) hp ⟨hne, Or.inl c74⟩ | exact zz_b1 (P := fun x => post (some (zz_i x)) h) hp ⟨hne, Or.inr ⟨c79, c89⟩⟩ | exact zz_b0 (P := fun x => post (some (zz_i x)) h) hp (fun z => z.2.elim c74 (fun w => c79 w.1)) | exact zz_b0 (P := fun x => post (some (zz_i x)) h) hp (fun z => z.2.elim c74 (fun w => c89 w.2))
          · refine zz_aload_n (q := 83) (f := 0) (i := 0) C (by decide +kernel) rfl rfl rfl ?_
            refine zz_getR (q := 86) C gf_S_19 (by decide +kernel) rfl (by first | rfl | assumption) hoa.1 ?_
            refine zz_getI (q := 89) C gf_S_66 (by decide +kernel) rfl (by first | rfl | assumption) rfl ?_
            refine zz_if_ne (off := 7) (tgt := 96) (q := 92) C (by decide +kernel) (by decide) rfl (fun c89 => ?_) (fun c89 => ?_)
            · refine zz_iconst (q := 97) (n := 0) (x := 0) C (by decide +kernel) rfl (by decide +kernel) ?_
              refine zz_zret C hr hlk (by decide +kernel) (by decide) hQ (by decide) (by decide) ?_
              unfold sg_eb at hp
              simp only [if_pos hke] at hp
              first | exact zz_b1 (P := fun x => post (some (zz_i x)) h) hp ⟨hne, Or.inl c74⟩ | exact zz_b1 (P := fun x => post (some (zz_i x)) h) hp ⟨hne, Or.inr ⟨c79, c89⟩⟩ | exact zz_b0 (P := fun x => post (some (zz_i x)) h) hp (fun z => z.2.elim c74 (fun w => c79 w.1)) | exact zz_b0 (P := fun x => post (some (zz_i x)) h) hp (fun z => z.2.elim c74 (fun w => c89 w.2))
            · refine zz_iconst (q := 93) (n := 1) (x := 1) C (by decide +kernel) rfl (by decide +kernel) ?_
              refine zz_goto (off := 4) (tgt := 97) C (by decide +kernel) (by decide) ?_
              refine zz_zret C hr hlk (by decide +kernel) (by decide) hQ (by decide) (by decide) ?_
              unfold sg_eb at hp
              simp only [if_pos hke] at hp
              first | exact zz_b1 (P := fun x => post (some (zz_i x)) h) hp ⟨hne, Or.inl c74⟩ | exact zz_b1 (P := fun x => post (some (zz_i x)) h) hp ⟨hne, Or.inr ⟨c79, c89⟩⟩ | exact zz_b0 (P := fun x => post (some (zz_i x)) h) hp (fun z => z.2.elim c74 (fun w => c79 w.1)) | exact zz_b0 (P := fun x => post (some (zz_i x)) h) hp (fun z => z.2.elim c74 (fun w => c89 w.2))
      · refine zz_iconst (q := 45) (n := 0) (x := 0) C (by decide +kernel) rfl (by decide +kernel) ?_
        refine zz_zret C hr hlk (by decide +kernel) (by decide) hQ (by decide) (by decide) ?_
        have hke : sg_k h a = sg_k h b := Option.some.inj c8
        unfold sg_eb at hp
        simp only [if_pos hke] at hp
        exact zz_b0 (P := fun x => post (some (zz_i x)) h) hp (fun z => zz_b_f c41 z.1)
    · refine zz_aload_n (q := 12) (f := 0) (i := 0) C (by decide +kernel) rfl rfl rfl ?_
      refine zz_getR (q := 15) C gf_S_19 (by decide +kernel) rfl (by first | rfl | assumption) hoa.1 ?_
      refine zz_getI (q := 18) C gf_S_63 (by decide +kernel) rfl (by first | rfl | assumption) rfl ?_
      refine zz_aload_n (q := 19) (f := 1) (i := 1) C (by decide +kernel) rfl rfl rfl ?_
      refine zz_getR (q := 22) C gf_S_19 (by decide +kernel) rfl (by first | rfl | assumption) hob.1 ?_
      refine zz_getI (q := 25) C gf_S_63 (by decide +kernel) rfl (by first | rfl | assumption) rfl ?_
      refine zz_icmp_ge (off := 7) (tgt := 32) (q := 28) C (by decide +kernel) (by decide) rfl (fun c25 => ?_) (fun c25 => ?_)
      · refine zz_iconst (q := 33) (n := 0) (x := 0) C (by decide +kernel) rfl (by decide +kernel) ?_
        refine zz_zret C hr hlk (by decide +kernel) (by decide) hQ (by decide) (by decide) ?_
        have hke : ¬ sg_k h a = sg_k h b := fun z => c8 (by rw [z])
        unfold sg_eb at hp
        simp only [if_neg hke] at hp
        first | exact zz_b1 (P := fun x => post (some (zz_i x)) h) hp (Int32.not_le.mp c25) | exact zz_b0 (P := fun x => post (some (zz_i x)) h) hp (fun z => Int32.not_le.mpr z c25)
      · refine zz_iconst (q := 29) (n := 1) (x := 1) C (by decide +kernel) rfl (by decide +kernel) ?_
        refine zz_goto (off := 4) (tgt := 33) C (by decide +kernel) (by decide) ?_
        refine zz_zret C hr hlk (by decide +kernel) (by decide) hQ (by decide) (by decide) ?_
        have hke : ¬ sg_k h a = sg_k h b := fun z => c8 (by rw [z])
        unfold sg_eb at hp
        simp only [if_neg hke] at hp
        first | exact zz_b1 (P := fun x => post (some (zz_i x)) h) hp (Int32.not_le.mp c25) | exact zz_b0 (P := fun x => post (some (zz_i x)) h) hp (fun z => Int32.not_le.mpr z c25)

def T_S_init : zz_Tr := fun as h post => ∃ a num k par, as = [zz_r 2 (some a), zz_i num, zz_r 1 k, zz_r 2 par] ∧ ∀ w, zz_tg h w = none → post none (zz_pR (zz_pR (zz_pI (zz_pR (zz_newA h 90 4 w) 2 3 a (some w)) 2 0 a num) 2 1 a k) 2 2 a par)
set_option maxRecDepth 100000 in
set_option maxHeartbeats 4000000 in
theorem m_S_init (l : Launch) : zz_Met l y_S_init w_S_init { frames := 1, cells := 1, slots := 4, locals := 12 } T_S_init := by
  refine zz_ofZ (by decide) (fun as h post hT => ?_) ?_
  · obtain ⟨a, num, k, par, rfl, hp⟩ := hT
    exact ⟨by simp [zz_cat], by simp⟩
  · intro D DA h as post hT p e s m args below meth c Q C hr hlk hnm hQ
    obtain ⟨a, num, k, par, rfl, hp⟩ := hT
    refine zz_aload_n (q := 1) (f := 0) (i := 0) C (by decide +kernel) rfl rfl rfl ?_
    refine zz_objInit (q := 4) C ol_S_3 zw_oi zw_oc (by decide +kernel) rfl (by first | rfl | assumption) (by decide) (by decide) ?_
    refine zz_aload_n (q := 5) (f := 0) (i := 0) C (by decide +kernel) rfl rfl rfl ?_
    refine zz_iconst (q := 6) (n := 4) (x := 4) C (by decide +kernel) rfl (by decide +kernel) ?_
    refine zz_newI (q := 8) (at9 := .int) (N := 4) C rfl an_a_I (by decide +kernel) (by decide) (by decide +kernel) rfl (by decide) (by decide) (fun a6 n6 => ?_)
    refine zz_putR (q := 11) C gf_S_9 (fun _ => ⟨hnm, fun _ _ _ h => by cases h; rfl⟩) (by decide +kernel) rfl (by first | rfl | assumption) ?_
    refine zz_aload_n (q := 12) (f := 0) (i := 0) C (by decide +kernel) rfl rfl rfl ?_
    refine zz_iload_n (q := 13) (f := 1) (i := 1) C (by decide +kernel) rfl rfl rfl ?_
    refine zz_putI (q := 16) C gf_S_15 (fun _ => ⟨hnm, fun _ _ _ h => by cases h; rfl⟩) (fun h => by cases h) (by decide +kernel) rfl (by first | rfl | assumption) ?_
    refine zz_aload_n (q := 17) (f := 0) (i := 0) C (by decide +kernel) rfl rfl rfl ?_
    refine zz_aload_n (q := 18) (f := 2) (i := 2) C (by decide +kernel) rfl rfl rfl ?_
    refine zz_putR (q := 21) C gf_S_19 (fun _ => ⟨hnm, fun _ _ _ h => by cases h; rfl⟩) (by decide +kernel) rfl (by first | rfl | assumption) ?_
    refine zz_aload_n (q := 22) (f := 0) (i := 0) C (by decide +kernel) rfl rfl rfl ?_
    refine zz_aload_n (q := 23) (f := 3) (i := 3) C (by decide +kernel) rfl rfl rfl ?_
    refine zz_putR (q := 26) C gf_S_23 (fun _ => ⟨hnm, fun _ _ _ h => by cases h; rfl⟩) (by decide +kernel) rfl (by first | rfl | assumption) ?_
    refine zz_vret C hr hlk (by decide +kernel) hQ (by decide) (by decide) ?_
    exact hp a6 n6

def T_K_init : zz_Tr := fun as h post => ∃ a t par ln sq u la lv, as = [zz_r 1 (some a), zz_i t, zz_r 1 par, zz_i ln, zz_i sq, zz_i u, zz_i la] ∧ (u = 0 ∨ u = 1) ∧ (la = 0 ∨ la = 1) ∧ (par = none → lv = 1) ∧ (∀ b, par = some b → b ≠ a ∧ lv = zz_fI h 1 2 b + 1) ∧ post none (zz_pI (zz_pI (zz_pI (zz_pI (zz_pI (zz_pR (zz_pI h 1 0 a t) 1 1 a par) 1 2 a lv) 1 3 a ln) 1 4 a sq) 1 5 a (zz_b (u ≠ 0 ∧ sq ≠ -1))) 1 6 a la)
set_option maxRecDepth 100000 in
set_option maxHeartbeats 4000000 in
theorem m_K_init (l : Launch) : zz_Met l y_K_init w_K_init { frames := 1, cells := 0, slots := 0, locals := 12 } T_K_init := by
  refine zz_ofZ (by decide) (fun as h post hT => ?_) ?_
  · obtain ⟨a, t, par, ln, sq, u, la, lv, rfl, hu, hla, hn, hs, hp⟩ := hT
    exact ⟨by simp [zz_cat], by simp⟩
  · intro D DA h as post hT p e s m args below meth c Q C hr hlk hnm hQ
    obtain ⟨a, t, par, ln, sq, u, la, lv, rfl, hu, hla, hn, hs, hp⟩ := hT
    have lp60 : ∀ x, x = zz_b (u ≠ 0 ∧ sq ≠ -1) → zz_Z p l e { frames := 1, cells := 0, slots := 0, locals := 12 } s m args below meth c Q D DA (zz_A h s.heap.size) h 7 60 [some (zz_r 1 (some a)), some (zz_i t), some (zz_r 1 par), some (zz_i ln), some (zz_i sq), some (zz_i u), some (zz_i la)] [zz_i x, zz_r 1 (some a)] (zz_pI (zz_pI (zz_pI (zz_pR (zz_pI h 1 0 a t) 1 1 a par) 1 2 a lv) 1 3 a ln) 1 4 a sq) 0 0 := by
      rintro x rfl
      refine zz_putI (q := 63) C gf_K_28 (fun _ => ⟨hnm, fun _ _ _ h => by cases h; rfl⟩) (fun _ => zz_b01 _) (by decide +kernel) rfl (by first | rfl | assumption) ?_
      refine zz_aload_n (q := 64) (f := 0) (i := 0) C (by decide +kernel) rfl rfl rfl ?_
      refine zz_iload (q := 66) (i := 6) C (by decide +kernel) rfl rfl ?_
      refine zz_putI (q := 69) C gf_K_32 (fun _ => ⟨hnm, fun _ _ _ h => by cases h; rfl⟩) (fun _ => hla) (by decide +kernel) rfl (by first | rfl | assumption) ?_
      refine zz_vret C hr hlk (by decide +kernel) hQ (by decide) (by decide) ?_
      exact hp
    have lp29 : ∀ x, x = lv → zz_Z p l e { frames := 1, cells := 0, slots := 0, locals := 12 } s m args below meth c Q D DA (zz_A h s.heap.size) h 7 29 [some (zz_r 1 (some a)), some (zz_i t), some (zz_r 1 par), some (zz_i ln), some (zz_i sq), some (zz_i u), some (zz_i la)] [zz_i x, zz_r 1 (some a)] (zz_pR (zz_pI h 1 0 a t) 1 1 a par) 0 0 := by
      rintro x rfl
      refine zz_putI (q := 32) C gf_K_19 (fun _ => ⟨hnm, fun _ _ _ h => by cases h; rfl⟩) (fun h => by cases h) (by decide +kernel) rfl (by first | rfl | assumption) ?_
      refine zz_aload_n (q := 33) (f := 0) (i := 0) C (by decide +kernel) rfl rfl rfl ?_
      refine zz_iload_n (q := 34) (f := 3) (i := 3) C (by decide +kernel) rfl rfl rfl ?_
      refine zz_putI (q := 37) C gf_K_22 (fun _ => ⟨hnm, fun _ _ _ h => by cases h; rfl⟩) (fun h => by cases h) (by decide +kernel) rfl (by first | rfl | assumption) ?_
      refine zz_aload_n (q := 38) (f := 0) (i := 0) C (by decide +kernel) rfl rfl rfl ?_
      refine zz_iload (q := 40) (i := 4) C (by decide +kernel) rfl rfl ?_
      refine zz_putI (q := 43) C gf_K_25 (fun _ => ⟨hnm, fun _ _ _ h => by cases h; rfl⟩) (fun h => by cases h) (by decide +kernel) rfl (by first | rfl | assumption) ?_
      refine zz_aload_n (q := 44) (f := 0) (i := 0) C (by decide +kernel) rfl rfl rfl ?_
      refine zz_iload (q := 46) (i := 5) C (by decide +kernel) rfl rfl ?_
      refine zz_if_eq (off := 13) (tgt := 59) (q := 49) C (by decide +kernel) (by decide) rfl (fun c46 => ?_) (fun c46 => ?_)
      · refine zz_iconst (q := 60) (n := 0) (x := 0) C (by decide +kernel) rfl (by decide +kernel) ?_
        -- AT 60
        refine lp60 _ ?_
        first | exact Eq.symm (zz_bT ⟨c46, c52⟩) | exact Eq.symm (zz_bF (fun z => z.2 c52)) | exact Eq.symm (zz_bF (fun z => z.1 c46))
      · refine zz_iload (q := 51) (i := 4) C (by decide +kernel) rfl rfl ?_
        refine zz_iconst (q := 52) (n := -1) (x := (-1)) C (by decide +kernel) rfl (by decide +kernel) ?_
        refine zz_icmp_eq (off := 7) (tgt := 59) (q := 55) C (by decide +kernel) (by decide) rfl (fun c52 => ?_) (fun c52 => ?_)
        · refine zz_iconst (q := 60) (n := 0) (x := 0) C (by decide +kernel) rfl (by decide +kernel) ?_
          -- AT 60
          refine lp60 _ ?_
          first | exact Eq.symm (zz_bT ⟨c46, c52⟩) | exact Eq.symm (zz_bF (fun z => z.2 c52)) | exact Eq.symm (zz_bF (fun z => z.1 c46))
        · refine zz_iconst (q := 56) (n := 1) (x := 1) C (by decide +kernel) rfl (by decide +kernel) ?_
          refine zz_goto (off := 4) (tgt := 60) C (by decide +kernel) (by decide) ?_
          -- AT 60
          refine lp60 _ ?_
          first | exact Eq.symm (zz_bT ⟨c46, c52⟩) | exact Eq.symm (zz_bF (fun z => z.2 c52)) | exact Eq.symm (zz_bF (fun z => z.1 c46))
    refine zz_aload_n (q := 1) (f := 0) (i := 0) C (by decide +kernel) rfl rfl rfl ?_
    refine zz_objInit (q := 4) C ol_K_3 zw_oi zw_oc (by decide +kernel) rfl (by first | rfl | assumption) (by decide) (by decide) ?_
    refine zz_aload_n (q := 5) (f := 0) (i := 0) C (by decide +kernel) rfl rfl rfl ?_
    refine zz_iload_n (q := 6) (f := 1) (i := 1) C (by decide +kernel) rfl rfl rfl ?_
    refine zz_putI (q := 9) C gf_K_9 (fun _ => ⟨hnm, fun _ _ _ h => by cases h; rfl⟩) (fun h => by cases h) (by decide +kernel) rfl (by first | rfl | assumption) ?_
    refine zz_aload_n (q := 10) (f := 0) (i := 0) C (by decide +kernel) rfl rfl rfl ?_
    refine zz_aload_n (q := 11) (f := 2) (i := 2) C (by decide +kernel) rfl rfl rfl ?_
    refine zz_putR (q := 14) C gf_K_15 (fun _ => ⟨hnm, fun _ _ _ h => by cases h; rfl⟩) (by decide +kernel) rfl (by first | rfl | assumption) ?_
    refine zz_aload_n (q := 15) (f := 0) (i := 0) C (by decide +kernel) rfl rfl rfl ?_
    refine zz_aload_n (q := 16) (f := 2) (i := 2) C (by decide +kernel) rfl rfl rfl ?_
    refine zz_ifnonnull (off := 7) (tgt := 23) (q := 19) C (by decide +kernel) (by decide) rfl (fun a16 c16 => ?_) (fun c16 => ?_)
    · refine zz_aload_n (q := 24) (f := 2) (i := 2) C (by decide +kernel) rfl rfl rfl ?_
      refine zz_getI (q := 27) C gf_K_19 (by decide +kernel) rfl (by first | rfl | assumption) (by rw [zz_fI_pR, zz_fI_pI, if_neg (fun z => (hs a16 c16).1 z.2.2)]) ?_
      refine zz_iconst (q := 28) (n := 1) (x := 1) C (by decide +kernel) rfl (by decide +kernel) ?_
      refine zz_iadd (q := 29) C (by decide +kernel) rfl (hs a16 c16).2.symm ?_
      -- AT 29
      first | exact lp29 _ rfl | exact lp29 _ (hn c16).symm
    · refine zz_iconst (q := 20) (n := 1) (x := 1) C (by decide +kernel) rfl (by decide +kernel) ?_
      refine zz_goto (off := 9) (tgt := 29) C (by decide +kernel) (by decide) ?_
      -- AT 29
      first | exact lp29 _ rfl | exact lp29 _ (hn c16).symm
end
section
/-! PathLevel -/
theorem zz_sw_1_5 (x : Int32) : x = 1 ∨ x = 2 ∨ x = 3 ∨ x = 4 ∨ x = 5 ∨ (x.toInt < 1 ∨ 5 < x.toInt) := by
  by_cases h1 : x.toInt = (1 : Int32).toInt
  · exact Or.inl (Int32.toInt_inj.mp h1)
  by_cases h2 : x.toInt = (2 : Int32).toInt
  · exact Or.inr (Or.inl (Int32.toInt_inj.mp h2))
  by_cases h3 : x.toInt = (3 : Int32).toInt
  · exact Or.inr (Or.inr (Or.inl (Int32.toInt_inj.mp h3)))
  by_cases h4 : x.toInt = (4 : Int32).toInt
  · exact Or.inr (Or.inr (Or.inr (Or.inl (Int32.toInt_inj.mp h4))))
  by_cases h5 : x.toInt = (5 : Int32).toInt
  · exact Or.inr (Or.inr (Or.inr (Or.inr (Or.inl (Int32.toInt_inj.mp h5)))))
  refine Or.inr (Or.inr (Or.inr (Or.inr (Or.inr (?_)))))
  have e1 : (1 : Int32).toInt = 1 := by decide +kernel
  have e2 : (2 : Int32).toInt = 2 := by decide +kernel
  have e3 : (3 : Int32).toInt = 3 := by decide +kernel
  have e4 : (4 : Int32).toInt = 4 := by decide +kernel
  have e5 : (5 : Int32).toInt = 5 := by decide +kernel
  omega
/-- an operation holds between a word and a number -/
def pl_cmp (q x y : Int32) : Prop := if q = 1 then x = y else if q = 2 then x ≠ y else if q = 3 then x < y else if q = 4 then x ≤ y else if q = 5 then y < x else y ≤ x
def pl_w (h : zz_H) (a : Nat) : Nat := (zz_fR h 3 2 a).getD 0
def pl_o (h : zz_H) (a : Nat) : Nat := (zz_fR h 3 3 a).getD 0
def pl_n (h : zz_H) (a : Nat) : Nat := (zz_fR h 3 4 a).getD 0
def pl_c (h : zz_H) (a : Nat) : Nat := (zz_fI h 3 1 a).toNatClampNeg
def pl_ok (h : zz_H) (a : Nat) : Prop := zz_fR h 3 2 a = some (pl_w h a) ∧ zz_fR h 3 3 a = some (pl_o h a) ∧ zz_fR h 3 4 a = some (pl_n h a) ∧ zz_tg h (pl_w h a) = some (90, 3) ∧ zz_tg h (pl_o h a) = some (90, 3) ∧ zz_tg h (pl_n h a) = some (90, 3) ∧ pl_c h a ≤ 3 ∧ zz_fI h 3 1 a = nI (pl_c h a) ∧ ∀ i, i < pl_c h a → ∃ j, j < 4 ∧ zz_aI h (pl_w h a) i = nI j
/-- what one condition asks of a segment -/
def pl_one (h : zz_H) (a s i : Nat) : Prop := pl_cmp (zz_aI h (pl_o h a) i) (zz_aI h (sg_w h s) (zz_aI h (pl_w h a) i).toNatClampNeg) (zz_aI h (pl_n h a) i)
def pl_met (h : zz_H) (a : Nat) (sg : Option Nat) : Prop := ∃ s, sg = some s ∧ zz_fR h 2 1 s = zz_fR h 3 0 a ∧ ∀ i, i < pl_c h a → pl_one h a s i
theorem zz_rT {post : Option zz_V → zz_H → Prop} {h : zz_H} {p c : Prop} (hp : post (some (zz_i (zz_b p))) h) (hc : c) (e : p ↔ c) : post (some (zz_i 1)) h := by
  rw [zz_bT (e.mpr hc)] at hp
  exact hp
theorem zz_rF {post : Option zz_V → zz_H → Prop} {h : zz_H} {p c : Prop} (hp : post (some (zz_i (zz_b p))) h) (hc : ¬ c) (e : p ↔ c) : post (some (zz_i 0)) h := by
  rw [zz_bF (fun z => hc (e.mp z))] at hp
  exact hp
def T_L_compares : zz_Tr := fun as h post => ∃ x q y, as = [zz_i x, zz_i q, zz_i y] ∧ post (some (zz_i (zz_b (pl_cmp q x y)))) h
set_option maxRecDepth 100000 in
set_option maxHeartbeats 4000000 in
theorem m_L_compares (l : Launch) : zz_Met l y_L_compares w_L_compares { frames := 1, cells := 0, slots := 0, locals := 12 } T_L_compares := by
  refine zz_ofZ (by decide) (fun as h post hT => ?_) ?_
  · obtain ⟨x, q, y, rfl, hp⟩ := hT
    exact ⟨by simp [zz_cat], by simp⟩
  · intro D DA h as post hT p e s m args below meth c Q C hr hlk hnm hQ
    obtain ⟨x, q, y, rfl, hp⟩ := hT
    refine zz_iload_n (q := 1) (f := 1) (i := 1) C (by decide +kernel) rfl rfl rfl ?_
    rcases (zz_sw_1_5 q) with hsw | hsw | hsw | hsw | hsw | hsw
    · refine zz_tableIn (dflt := 90) (lo := 1) (hi := 5) (offs := #[35, 46, 57, 68, 79]) (len := 35) (off := 35) (tgt := 36) C (by decide +kernel) (by rw [hsw]; decide) (by rw [hsw]; decide) (by rw [hsw]; rfl) (by decide) ?_
      refine zz_iload_n (q := 37) (f := 0) (i := 0) C (by decide +kernel) rfl rfl rfl ?_
      refine zz_iload_n (q := 38) (f := 2) (i := 2) C (by decide +kernel) rfl rfl rfl ?_
      refine zz_icmp_ne (off := 7) (tgt := 45) (q := 41) C (by decide +kernel) (by decide) rfl (fun c38 => ?_) (fun c38 => ?_)
      · refine zz_iconst (q := 46) (n := 0) (x := 0) C (by decide +kernel) rfl (by decide +kernel) ?_
        refine zz_zret C hr hlk (by decide +kernel) (by decide) hQ (by decide) (by decide) ?_
        have e : pl_cmp q x y ↔ x = y := by simp [pl_cmp, hsw]
        first | exact zz_rT hp c38 e | exact zz_rT hp (Int32.not_le.mp c38) e | exact zz_rT hp (Int32.not_lt.mp c38) e | exact zz_rF hp c38 e | exact zz_rF hp (Int32.not_lt.mpr c38) e | exact zz_rF hp (Int32.not_le.mpr c38) e | exact zz_rF hp (fun z => z c38) e
      · refine zz_iconst (q := 42) (n := 1) (x := 1) C (by decide +kernel) rfl (by decide +kernel) ?_
        refine zz_goto (off := 4) (tgt := 46) C (by decide +kernel) (by decide) ?_
        refine zz_zret C hr hlk (by decide +kernel) (by decide) hQ (by decide) (by decide) ?_
        have e : pl_cmp q x y ↔ x = y := by simp [pl_cmp, hsw]
        first | exact zz_rT hp c38 e | exact zz_rT hp (Int32.not_le.mp c38) e | exact zz_rT hp (Int32.not_lt.mp c38) e | exact zz_rF hp c38 e | exact zz_rF hp (Int32.not_lt.mpr c38) e | exact zz_rF hp (Int32.not_le.mpr c38) e | exact zz_rF hp (fun z => z c38) e
    · refine zz_tableIn (dflt := 90) (lo := 1) (hi := 5) (offs := #[35, 46, 57, 68, 79]) (len := 35) (off := 46) (tgt := 47) C (by decide +kernel) (by rw [hsw]; decide) (by rw [hsw]; decide) (by rw [hsw]; rfl) (by decide) ?_
      refine zz_iload_n (q := 48) (f := 0) (i := 0) C (by decide +kernel) rfl rfl rfl ?_
      refine zz_iload_n (q := 49) (f := 2) (i := 2) C (by decide +kernel) rfl rfl rfl ?_
      refine zz_icmp_eq (off := 7) (tgt := 56) (q := 52) C (by decide +kernel) (by decide) rfl (fun c49 => ?_) (fun c49 => ?_)
      · refine zz_iconst (q := 57) (n := 0) (x := 0) C (by decide +kernel) rfl (by decide +kernel) ?_
        refine zz_zret C hr hlk (by decide +kernel) (by decide) hQ (by decide) (by decide) ?_
        have e : pl_cmp q x y ↔ x ≠ y := by simp [pl_cmp, hsw]
        first | exact zz_rT hp c49 e | exact zz_rT hp (Int32.not_le.mp c49) e | exact zz_rT hp (Int32.not_lt.mp c49) e | exact zz_rF hp c49 e | exact zz_rF hp (Int32.not_lt.mpr c49) e | exact zz_rF hp (Int32.not_le.mpr c49) e | exact zz_rF hp (fun z => z c49) e
      · refine zz_iconst (q := 53) (n := 1) (x := 1) C (by decide +kernel) rfl (by decide +kernel) ?_
        refine zz_goto (off := 4) (tgt := 57) C (by decide +kernel) (by decide) ?_
        refine zz_zret C hr hlk (by decide +kernel) (by decide) hQ (by decide) (by decide) ?_
        have e : pl_cmp q x y ↔ x ≠ y := by simp [pl_cmp, hsw]
        first | exact zz_rT hp c49 e | exact zz_rT hp (Int32.not_le.mp c49) e | exact zz_rT hp (Int32.not_lt.mp c49) e | exact zz_rF hp c49 e | exact zz_rF hp (Int32.not_lt.mpr c49) e | exact zz_rF hp (Int32.not_le.mpr c49) e | exact zz_rF hp (fun z => z c49) e
    · refine zz_tableIn (dflt := 90) (lo := 1) (hi := 5) (offs := #[35, 46, 57, 68, 79]) (len := 35) (off := 57) (tgt := 58) C (by decide +kernel) (by rw [hsw]; decide) (by rw [hsw]; decide) (by rw [hsw]; rfl) (by decide) ?_
      refine zz_iload_n (q := 59) (f := 0) (i := 0) C (by decide +kernel) rfl rfl rfl ?_
      refine zz_iload_n (q := 60) (f := 2) (i := 2) C (by decide +kernel) rfl rfl rfl ?_
      refine zz_icmp_ge (off := 7) (tgt := 67) (q := 63) C (by decide +kernel) (by decide) rfl (fun c60 => ?_) (fun c60 => ?_)
      · refine zz_iconst (q := 68) (n := 0) (x := 0) C (by decide +kernel) rfl (by decide +kernel) ?_
        refine zz_zret C hr hlk (by decide +kernel) (by decide) hQ (by decide) (by decide) ?_
        have e : pl_cmp q x y ↔ x < y := by simp [pl_cmp, hsw]
        first | exact zz_rT hp c60 e | exact zz_rT hp (Int32.not_le.mp c60) e | exact zz_rT hp (Int32.not_lt.mp c60) e | exact zz_rF hp c60 e | exact zz_rF hp (Int32.not_lt.mpr c60) e | exact zz_rF hp (Int32.not_le.mpr c60) e | exact zz_rF hp (fun z => z c60) e
      · refine zz_iconst (q := 64) (n := 1) (x := 1) C (by decide +kernel) rfl (by decide +kernel) ?_
        refine zz_goto (off := 4) (tgt := 68) C (by decide +kernel) (by decide) ?_
        refine zz_zret C hr hlk (by decide +kernel) (by decide) hQ (by decide) (by decide) ?_
        have e : pl_cmp q x y ↔ x < y := by simp [pl_cmp, hsw]
        first | exact zz_rT hp c60 e | exact zz_rT hp (Int32.not_le.mp c60) e | exact zz_rT hp (Int32.not_lt.mp c60) e | exact zz_rF hp c60 e | exact zz_rF hp (Int32.not_lt.mpr c60) e | exact zz_rF hp (Int32.not_le.mpr c60) e | exact zz_rF hp (fun z => z c60) e
    · refine zz_tableIn (dflt := 90) (lo := 1) (hi := 5) (offs := #[35, 46, 57, 68, 79]) (len := 35) (off := 68) (tgt := 69) C (by decide +kernel) (by rw [hsw]; decide) (by rw [hsw]; decide) (by rw [hsw]; rfl) (by decide) ?_
      refine zz_iload_n (q := 70) (f := 0) (i := 0) C (by decide +kernel) rfl rfl rfl ?_
      refine zz_iload_n (q := 71) (f := 2) (i := 2) C (by decide +kernel) rfl rfl rfl ?_
      refine zz_icmp_gt (off := 7) (tgt := 78) (q := 74) C (by decide +kernel) (by decide) rfl (fun c71 => ?_) (fun c71 => ?_)
      · refine zz_iconst (q := 79) (n := 0) (x := 0) C (by decide +kernel) rfl (by decide +kernel) ?_
        refine zz_zret C hr hlk (by decide +kernel) (by decide) hQ (by decide) (by decide) ?_
        have e : pl_cmp q x y ↔ x ≤ y := by simp [pl_cmp, hsw]
        first | exact zz_rT hp c71 e | exact zz_rT hp (Int32.not_le.mp c71) e | exact zz_rT hp (Int32.not_lt.mp c71) e | exact zz_rF hp c71 e | exact zz_rF hp (Int32.not_lt.mpr c71) e | exact zz_rF hp (Int32.not_le.mpr c71) e | exact zz_rF hp (fun z => z c71) e
      · refine zz_iconst (q := 75) (n := 1) (x := 1) C (by decide +kernel) rfl (by decide +kernel) ?_
        refine zz_goto (off := 4) (tgt := 79) C (by decide +kernel) (by decide) ?_
        refine zz_zret C hr hlk (by decide +kernel) (by decide) hQ (by decide) (by decide) ?_
        have e : pl_cmp q x y ↔ x ≤ y := by simp [pl_cmp, hsw]
        first | exact zz_rT hp c71 e | exact zz_rT hp (Int32.not_le.mp c71) e | exact zz_rT hp (Int32.not_lt.mp c71) e | exact zz_rF hp c71 e | exact zz_rF hp (Int32.not_lt.mpr c71) e | exact zz_rF hp (Int32.not_le.mpr c71) e | exact zz_rF hp (fun z => z c71) e
    · refine zz_tableIn (dflt := 90) (lo := 1) (hi := 5) (offs := #[35, 46, 57, 68, 79]) (len := 35) (off := 79) (tgt := 80) C (by decide +kernel) (by rw [hsw]; decide) (by rw [hsw]; decide) (by rw [hsw]; rfl) (by decide) ?_
      refine zz_iload_n (q := 81) (f := 0) (i := 0) C (by decide +kernel) rfl rfl rfl ?_
      refine zz_iload_n (q := 82) (f := 2) (i := 2) C (by decide +kernel) rfl rfl rfl ?_
      refine zz_icmp_le (off := 7) (tgt := 89) (q := 85) C (by decide +kernel) (by decide) rfl (fun c82 => ?_) (fun c82 => ?_)
      · refine zz_iconst (q := 90) (n := 0) (x := 0) C (by decide +kernel) rfl (by decide +kernel) ?_
        refine zz_zret C hr hlk (by decide +kernel) (by decide) hQ (by decide) (by decide) ?_
        have e : pl_cmp q x y ↔ y < x := by simp [pl_cmp, hsw]
        first | exact zz_rT hp c82 e | exact zz_rT hp (Int32.not_le.mp c82) e | exact zz_rT hp (Int32.not_lt.mp c82) e | exact zz_rF hp c82 e | exact zz_rF hp (Int32.not_lt.mpr c82) e | exact zz_rF hp (Int32.not_le.mpr c82) e | exact zz_rF hp (fun z => z c82) e
      · refine zz_iconst (q := 86) (n := 1) (x := 1) C (by decide +kernel) rfl (by decide +kernel) ?_
        refine zz_goto (off := 4) (tgt := 90) C (by decide +kernel) (by decide) ?_
        refine zz_zret C hr hlk (by decide +kernel) (by decide) hQ (by decide) (by decide) ?_
        have e : pl_cmp q x y ↔ y < x := by simp [pl_cmp, hsw]
        first | exact zz_rT hp c82 e | exact zz_rT hp (Int32.not_le.mp c82) e | exact zz_rT hp (Int32.not_lt.mp c82) e | exact zz_rF hp c82 e | exact zz_rF hp (Int32.not_lt.mpr c82) e | exact zz_rF hp (Int32.not_le.mpr c82) e | exact zz_rF hp (fun z => z c82) e
    · refine zz_tableOut (dflt := 90) (lo := 1) (hi := 5) (offs := #[35, 46, 57, 68, 79]) (len := 35) (tgt := 91) C (by decide +kernel) hsw (by decide) ?_
      refine zz_iload_n (q := 92) (f := 0) (i := 0) C (by decide +kernel) rfl rfl rfl ?_
      refine zz_iload_n (q := 93) (f := 2) (i := 2) C (by decide +kernel) rfl rfl rfl ?_
      refine zz_icmp_lt (off := 7) (tgt := 100) (q := 96) C (by decide +kernel) (by decide) rfl (fun c93 => ?_) (fun c93 => ?_)
      · refine zz_iconst (q := 101) (n := 0) (x := 0) C (by decide +kernel) rfl (by decide +kernel) ?_
        refine zz_zret C hr hlk (by decide +kernel) (by decide) hQ (by decide) (by decide) ?_
        have e : pl_cmp q x y ↔ y ≤ x := by
          have n1 : q ≠ 1 := fun z => by rw [z] at hsw; exact absurd hsw (by decide)
          have n2 : q ≠ 2 := fun z => by rw [z] at hsw; exact absurd hsw (by decide)
          have n3 : q ≠ 3 := fun z => by rw [z] at hsw; exact absurd hsw (by decide)
          have n4 : q ≠ 4 := fun z => by rw [z] at hsw; exact absurd hsw (by decide)
          have n5 : q ≠ 5 := fun z => by rw [z] at hsw; exact absurd hsw (by decide)
          simp [pl_cmp, n1, n2, n3, n4, n5]
        first | exact zz_rT hp c93 e | exact zz_rT hp (Int32.not_le.mp c93) e | exact zz_rT hp (Int32.not_lt.mp c93) e | exact zz_rF hp c93 e | exact zz_rF hp (Int32.not_lt.mpr c93) e | exact zz_rF hp (Int32.not_le.mpr c93) e
      · refine zz_iconst (q := 97) (n := 1) (x := 1) C (by decide +kernel) rfl (by decide +kernel) ?_
        refine zz_goto (off := 4) (tgt := 101) C (by decide +kernel) (by decide) ?_
        refine zz_zret C hr hlk (by decide +kernel) (by decide) hQ (by decide) (by decide) ?_
        have e : pl_cmp q x y ↔ y ≤ x := by
          have n1 : q ≠ 1 := fun z => by rw [z] at hsw; exact absurd hsw (by decide)
          have n2 : q ≠ 2 := fun z => by rw [z] at hsw; exact absurd hsw (by decide)
          have n3 : q ≠ 3 := fun z => by rw [z] at hsw; exact absurd hsw (by decide)
          have n4 : q ≠ 4 := fun z => by rw [z] at hsw; exact absurd hsw (by decide)
          have n5 : q ≠ 5 := fun z => by rw [z] at hsw; exact absurd hsw (by decide)
          simp [pl_cmp, n1, n2, n3, n4, n5]
        first | exact zz_rT hp c93 e | exact zz_rT hp (Int32.not_le.mp c93) e | exact zz_rT hp (Int32.not_lt.mp c93) e | exact zz_rF hp c93 e | exact zz_rF hp (Int32.not_lt.mpr c93) e | exact zz_rF hp (Int32.not_le.mpr c93) e

def T_L_forget : zz_Tr := fun as h post => ∃ a, as = [zz_r 3 (some a)] ∧ post none (zz_pI (zz_pR h 3 0 a none) 3 1 a 0)
set_option maxRecDepth 100000 in
set_option maxHeartbeats 4000000 in
theorem m_L_forget (l : Launch) : zz_Met l y_L_forget w_L_forget { frames := 1, cells := 0, slots := 0, locals := 12 } T_L_forget := by
  refine zz_ofZ (by decide) (fun as h post hT => ?_) ?_
  · obtain ⟨a, rfl, hp⟩ := hT
    exact ⟨by simp [zz_cat], by simp⟩
  · intro D DA h as post hT p e s m args below meth c Q C hr hlk hnm hQ
    obtain ⟨a, rfl, hp⟩ := hT
    refine zz_aload_n (q := 1) (f := 0) (i := 0) C (by decide +kernel) rfl rfl rfl ?_
    refine zz_null (q := 2) C 1 (by decide +kernel) rfl ?_
    refine zz_putR (q := 5) C gf_L_21 (fun h => by cases h) (by decide +kernel) rfl (by first | rfl | assumption) ?_
    refine zz_aload_n (q := 6) (f := 0) (i := 0) C (by decide +kernel) rfl rfl rfl ?_
    refine zz_iconst (q := 7) (n := 0) (x := 0) C (by decide +kernel) rfl (by decide +kernel) ?_
    refine zz_putI (q := 10) C gf_L_25 (fun h => by cases h) (fun h => by cases h) (by decide +kernel) rfl (by first | rfl | assumption) ?_
    refine zz_vret C hr hlk (by decide +kernel) hQ (by decide) (by decide) ?_
    exact hp

def T_L_isStated : zz_Tr := fun as h post => ∃ a, as = [zz_r 3 (some a)] ∧ post (some (zz_i (zz_b (zz_fR h 3 0 a ≠ none)))) h
set_option maxRecDepth 100000 in
set_option maxHeartbeats 4000000 in
theorem m_L_isStated (l : Launch) : zz_Met l y_L_isStated w_L_isStated { frames := 1, cells := 0, slots := 0, locals := 12 } T_L_isStated := by
  refine zz_ofZ (by decide) (fun as h post hT => ?_) ?_
  · obtain ⟨a, rfl, hp⟩ := hT
    exact ⟨by simp [zz_cat], by simp⟩
  · intro D DA h as post hT p e s m args below meth c Q C hr hlk hnm hQ
    obtain ⟨a, rfl, hp⟩ := hT
    refine zz_aload_n (q := 1) (f := 0) (i := 0) C (by decide +kernel) rfl rfl rfl ?_
    refine zz_getR (q := 4) C gf_L_21 (by decide +kernel) rfl (by first | rfl | assumption) rfl ?_
    refine zz_ifnull (off := 7) (tgt := 11) (q := 7) C (by decide +kernel) (by decide) rfl (fun c4 => ?_) (fun a4 c4 => ?_)
    · refine zz_iconst (q := 12) (n := 0) (x := 0) C (by decide +kernel) rfl (by decide +kernel) ?_
      refine zz_zret C hr hlk (by decide +kernel) (by decide) hQ (by decide) (by decide) ?_
      first | exact zz_b0 (P := fun x => post (some (zz_i x)) h) hp (fun z => z c4) | exact zz_b1 (P := fun x => post (some (zz_i x)) h) hp (by rw [c4]; exact fun z => by cases z)
    · refine zz_iconst (q := 8) (n := 1) (x := 1) C (by decide +kernel) rfl (by decide +kernel) ?_
      refine zz_goto (off := 4) (tgt := 12) C (by decide +kernel) (by decide) ?_
      refine zz_zret C hr hlk (by decide +kernel) (by decide) hQ (by decide) (by decide) ?_
      first | exact zz_b0 (P := fun x => post (some (zz_i x)) h) hp (fun z => z c4) | exact zz_b1 (P := fun x => post (some (zz_i x)) h) hp (by rw [c4]; exact fun z => by cases z)

def T_L_state : zz_Tr := fun as h post => ∃ a k, as = [zz_r 3 (some a), zz_r 1 k] ∧ ((zz_fR h 3 0 a ≠ none ∧ zz_fR h 3 0 a ≠ k) → post (some (zz_i 0)) h) ∧ (¬ (zz_fR h 3 0 a ≠ none ∧ zz_fR h 3 0 a ≠ k) → post (some (zz_i 1)) (zz_pR h 3 0 a k))
set_option maxRecDepth 100000 in
set_option maxHeartbeats 4000000 in
theorem m_L_state (l : Launch) : zz_Met l y_L_state w_L_state { frames := 1, cells := 0, slots := 0, locals := 12 } T_L_state := by
  refine zz_ofZ (by decide) (fun as h post hT => ?_) ?_
  · obtain ⟨a, k, rfl, h1, h2⟩ := hT
    exact ⟨by simp [zz_cat], by simp⟩
  · intro D DA h as post hT p e s m args below meth c Q C hr hlk hnm hQ
    obtain ⟨a, k, rfl, h1, h2⟩ := hT
    refine zz_aload_n (q := 1) (f := 0) (i := 0) C (by decide +kernel) rfl rfl rfl ?_
    refine zz_getR (q := 4) C gf_L_21 (by decide +kernel) rfl (by first | rfl | assumption) rfl ?_
    refine zz_ifnull (off := 13) (tgt := 17) (q := 7) C (by decide +kernel) (by decide) rfl (fun c4 => ?_) (fun a4 c4 => ?_)
    · refine zz_aload_n (q := 18) (f := 0) (i := 0) C (by decide +kernel) rfl rfl rfl ?_
      refine zz_aload_n (q := 19) (f := 1) (i := 1) C (by decide +kernel) rfl rfl rfl ?_
      refine zz_putR (q := 22) C gf_L_21 (fun h => by cases h) (by decide +kernel) rfl (by first | rfl | assumption) ?_
      refine zz_iconst (q := 23) (n := 1) (x := 1) C (by decide +kernel) rfl (by decide +kernel) ?_
      refine zz_zret C hr hlk (by decide +kernel) (by decide) hQ (by decide) (by decide) ?_
      first | exact h2 (fun z => z.1 c4) | exact h2 (fun z => z.2 c12)
    · refine zz_aload_n (q := 8) (f := 0) (i := 0) C (by decide +kernel) rfl rfl rfl ?_
      refine zz_getR (q := 11) C gf_L_21 (by decide +kernel) rfl (by first | rfl | assumption) rfl ?_
      refine zz_aload_n (q := 12) (f := 1) (i := 1) C (by decide +kernel) rfl rfl rfl ?_
      refine zz_acmp_eq (off := 5) (tgt := 17) (q := 15) C (by decide +kernel) (by decide) rfl (fun c12 => ?_) (fun c12 => ?_)
      · refine zz_aload_n (q := 18) (f := 0) (i := 0) C (by decide +kernel) rfl rfl rfl ?_
        refine zz_aload_n (q := 19) (f := 1) (i := 1) C (by decide +kernel) rfl rfl rfl ?_
        refine zz_putR (q := 22) C gf_L_21 (fun h => by cases h) (by decide +kernel) rfl (by first | rfl | assumption) ?_
        refine zz_iconst (q := 23) (n := 1) (x := 1) C (by decide +kernel) rfl (by decide +kernel) ?_
        refine zz_zret C hr hlk (by decide +kernel) (by decide) hQ (by decide) (by decide) ?_
        first | exact h2 (fun z => z.1 c4) | exact h2 (fun z => z.2 c12)
      · refine zz_iconst (q := 16) (n := 0) (x := 0) C (by decide +kernel) rfl (by decide +kernel) ?_
        refine zz_zret C hr hlk (by decide +kernel) (by decide) hQ (by decide) (by decide) ?_
        exact h1 ⟨by rw [c4]; exact fun z => (by cases z), c12⟩
end
section
def T_L_addCondition : zz_Tr := fun as h post => ∃ a k w q n, as = [zz_r 3 (some a), zz_r 1 k, zz_i w, zz_i q, zz_i n] ∧ pl_ok h a ∧ ((3 ≤ pl_c h a ∨ (zz_fR h 3 0 a ≠ none ∧ zz_fR h 3 0 a ≠ k)) → post (some (zz_i 0)) h) ∧ (¬ (3 ≤ pl_c h a ∨ (zz_fR h 3 0 a ≠ none ∧ zz_fR h 3 0 a ≠ k)) → post (some (zz_i 1)) (zz_pI (zz_sI (zz_sI (zz_sI (zz_pR h 3 0 a k) (pl_w h a) (pl_c h a) w) (pl_o h a) (pl_c h a) q) (pl_n h a) (pl_c h a) n) 3 1 a (nI (pl_c h a + 1))))
set_option maxRecDepth 100000 in
set_option maxHeartbeats 4000000 in
theorem m_L_addCondition (l : Launch) : zz_Met l y_L_addCondition w_L_addCondition { frames := 2, cells := 0, slots := 0, locals := 33 } T_L_addCondition := by
  refine zz_ofZ (by decide) (fun as h post hT => ?_) ?_
  · obtain ⟨a, k, w, q, n, rfl, hok, h1, h2⟩ := hT
    exact ⟨by simp [zz_cat], by simp⟩
  · intro D DA h as post hT p e s m args below meth c Q C hr hlk hnm hQ
    obtain ⟨a, k, w, q, n, rfl, hok, h1, h2⟩ := hT
    refine zz_aload_n (q := 1) (f := 0) (i := 0) C (by decide +kernel) rfl rfl rfl ?_
    refine zz_getI (q := 4) C gf_L_25 (by decide +kernel) rfl (by first | rfl | assumption) hok.2.2.2.2.2.2.2.1 ?_
    refine zz_iconst (q := 5) (n := 3) (x := 3) C (by decide +kernel) rfl (by decide +kernel) ?_
    refine zz_icmp_ge (off := 11) (tgt := 16) (q := 8) C (by decide +kernel) (by decide) rfl (fun c5 => ?_) (fun c5 => ?_)
    · refine zz_iconst (q := 17) (n := 0) (x := 0) C (by decide +kernel) rfl (by decide +kernel) ?_
      refine zz_zret C hr hlk (by decide +kernel) (by decide) hQ (by decide) (by decide) ?_
      exact h1 (Or.inl (Nat.le_of_not_lt (fun w9 => nI_ge w9 (by decide) c5)))
    · refine zz_aload_n (q := 9) (f := 0) (i := 0) C (by decide +kernel) rfl rfl rfl ?_
      refine zz_aload_n (q := 10) (f := 1) (i := 1) C (by decide +kernel) rfl rfl rfl ?_
      refine zz_callV (q := 13) C (m_L_state l) cv_L_29 (by decide +kernel) rfl rfl rfl (by first | rfl | assumption) (by decide) (by decide) (by decide) ⟨_, _, rfl, fun z => ?_, fun z => ?_⟩
      · refine zz_if_ne (off := 5) (tgt := 18) (q := 16) C (by decide +kernel) (by decide) rfl (fun c13 => ?_) (fun c13 => ?_)
        · exact absurd rfl c13
        · refine zz_iconst (q := 17) (n := 0) (x := 0) C (by decide +kernel) rfl (by decide +kernel) ?_
          refine zz_zret C hr hlk (by decide +kernel) (by decide) hQ (by decide) (by decide) ?_
          exact h1 (Or.inr z)
      · refine zz_if_ne (off := 5) (tgt := 18) (q := 16) C (by decide +kernel) (by decide) rfl (fun c13 => ?_) (fun c13 => ?_)
        · have hlt : pl_c h a < 3 := Nat.lt_of_not_le (fun w9 => c5 (nI_le w9 (by have := hok.2.2.2.2.2.2.1; omega)))
          refine zz_aload_n (q := 19) (f := 0) (i := 0) C (by decide +kernel) rfl rfl rfl ?_
          refine zz_getR (q := 22) C gf_L_9 (by decide +kernel) rfl (by first | rfl | assumption) (show zz_fR h 3 2 a = _ from hok.1) ?_
          refine zz_aload_n (q := 23) (f := 0) (i := 0) C (by decide +kernel) rfl rfl rfl ?_
          refine zz_getI (q := 26) C gf_L_25 (by decide +kernel) rfl (by first | rfl | assumption) (show zz_fI h 3 1 a = _ from hok.2.2.2.2.2.2.2.1) ?_
          refine zz_iload_n (q := 27) (f := 2) (i := 2) C (by decide +kernel) rfl rfl rfl ?_
          refine zz_iastore (q := 28) C (by decide +kernel) rfl rfl hok.2.2.2.1 rfl (show pl_c h a < 3 from hlt) (by decide) ?_
          refine zz_aload_n (q := 29) (f := 0) (i := 0) C (by decide +kernel) rfl rfl rfl ?_
          refine zz_getR (q := 32) C gf_L_15 (by decide +kernel) rfl (by first | rfl | assumption) (show zz_fR h 3 3 a = _ from hok.2.1) ?_
          refine zz_aload_n (q := 33) (f := 0) (i := 0) C (by decide +kernel) rfl rfl rfl ?_
          refine zz_getI (q := 36) C gf_L_25 (by decide +kernel) rfl (by first | rfl | assumption) (show zz_fI h 3 1 a = _ from hok.2.2.2.2.2.2.2.1) ?_
          refine zz_iload_n (q := 37) (f := 3) (i := 3) C (by decide +kernel) rfl rfl rfl ?_
          refine zz_iastore (q := 38) C (by decide +kernel) rfl rfl hok.2.2.2.2.1 rfl (show pl_c h a < 3 from hlt) (by decide) ?_
          refine zz_aload_n (q := 39) (f := 0) (i := 0) C (by decide +kernel) rfl rfl rfl ?_
          refine zz_getR (q := 42) C gf_L_18 (by decide +kernel) rfl (by first | rfl | assumption) (show zz_fR h 3 4 a = _ from hok.2.2.1) ?_
          refine zz_aload_n (q := 43) (f := 0) (i := 0) C (by decide +kernel) rfl rfl rfl ?_
          refine zz_getI (q := 46) C gf_L_25 (by decide +kernel) rfl (by first | rfl | assumption) (show zz_fI h 3 1 a = _ from hok.2.2.2.2.2.2.2.1) ?_
          refine zz_iload (q := 48) (i := 4) C (by decide +kernel) rfl rfl ?_
          refine zz_iastore (q := 49) C (by decide +kernel) rfl rfl hok.2.2.2.2.2.1 rfl (show pl_c h a < 3 from hlt) (by decide) ?_
          refine zz_aload_n (q := 50) (f := 0) (i := 0) C (by decide +kernel) rfl rfl rfl ?_
          refine zz_dup (q := 51) C (by decide +kernel) rfl rfl ?_
          refine zz_getI (q := 54) C gf_L_25 (by decide +kernel) rfl (by first | rfl | assumption) (show zz_fI h 3 1 a = _ from hok.2.2.2.2.2.2.2.1) ?_
          refine zz_iconst (q := 55) (n := 1) (x := 1) C (by decide +kernel) rfl (by decide +kernel) ?_
          refine zz_iadd (q := 56) C (by decide +kernel) rfl (nI_succ _).symm ?_
          refine zz_putI (q := 59) C gf_L_25 (fun h => by cases h) (fun h => by cases h) (by decide +kernel) rfl (by first | rfl | assumption) ?_
          refine zz_iconst (q := 60) (n := 1) (x := 1) C (by decide +kernel) rfl (by decide +kernel) ?_
          refine zz_zret C hr hlk (by decide +kernel) (by decide) hQ (by decide) (by decide) ?_
          exact h2 (fun y => y.elim (fun y => by omega) z)
        · exact absurd c13 (by decide)

def T_L_isMetBy : zz_Tr := fun as h post => ∃ a sg, as = [zz_r 3 (some a), zz_r 2 sg] ∧ pl_ok h a ∧ (∀ s, sg = some s → sg_ok h s) ∧ post (some (zz_i (zz_b (pl_met h a sg)))) h
set_option maxRecDepth 100000 in
set_option maxHeartbeats 4000000 in
theorem m_L_isMetBy (l : Launch) : zz_Met l y_L_isMetBy w_L_isMetBy { frames := 2, cells := 0, slots := 0, locals := 34 } T_L_isMetBy := by
  refine zz_ofZ (by decide) (fun as h post hT => ?_) ?_
  · obtain ⟨a, sg, rfl, hok, hsg, hp⟩ := hT
    exact ⟨by simp [zz_cat], by simp⟩
  · intro D DA h as post hT p e s m args below meth c Q C hr hlk hnm hQ
    obtain ⟨a, sg, rfl, hok, hsg, hp⟩ := hT
    have lp19 : ∀ s9, sg = some s9 → zz_fR h 2 1 s9 = zz_fR h 3 0 a → ∀ n i, n + i = pl_c h a → i ≤ pl_c h a → (∀ j, j < i → pl_one h a s9 j) → zz_Z p l e { frames := 2, cells := 0, slots := 0, locals := 34 } s m args below meth c Q D DA (zz_A h s.heap.size) h 3 19 [some (zz_r 3 (some a)), some (zz_r 2 sg), some (zz_i (nI i))] [] h 0 0 := by
      intro s9 hs9 hkk n
      have hos := hsg s9 hs9
      induction n with
      | zero =>
        intro i hni hic hall
        refine zz_iload_n (q := 20) (f := 2) (i := 2) C (by decide +kernel) rfl rfl rfl ?_
        refine zz_aload_n (q := 21) (f := 0) (i := 0) C (by decide +kernel) rfl rfl rfl ?_
        refine zz_getI (q := 24) C gf_L_25 (by decide +kernel) rfl rfl hok.2.2.2.2.2.2.2.1 ?_
        refine zz_icmp_ge (off := 40) (tgt := 64) (q := 27) C (by decide +kernel) (by decide) rfl (fun c24 => ?_) (fun c24 => absurd (nI_le (by omega) (by have := hok.2.2.2.2.2.2.1; omega)) c24)
        refine zz_iconst (q := 65) (n := 1) (x := 1) C (by decide +kernel) rfl (by decide +kernel) ?_
        refine zz_zret C hr hlk (by decide +kernel) (by decide) hQ (by decide) (by decide) ?_
        exact zz_b1 (P := fun x => post (some (zz_i x)) h) hp ⟨s9, hs9, hkk, fun j hj => hall j (by omega)⟩
      | succ n ih =>
        intro i hni hic hall
        have hc3 := hok.2.2.2.2.2.2.1
        have hi : i < 3 := by omega
        obtain ⟨j9, hj9, ej9⟩ := hok.2.2.2.2.2.2.2.2 i (by omega)
        refine zz_iload_n (q := 20) (f := 2) (i := 2) C (by decide +kernel) rfl rfl rfl ?_
        refine zz_aload_n (q := 21) (f := 0) (i := 0) C (by decide +kernel) rfl rfl rfl ?_
        refine zz_getI (q := 24) C gf_L_25 (by decide +kernel) rfl (by first | rfl | assumption) hok.2.2.2.2.2.2.2.1 ?_
        refine zz_icmp_ge (off := 40) (tgt := 64) (q := 27) C (by decide +kernel) (by decide) rfl (fun c24 => ?_) (fun c24 => ?_)
        · refine zz_iconst (q := 65) (n := 1) (x := 1) C (by decide +kernel) rfl (by decide +kernel) ?_
          refine zz_zret C hr hlk (by decide +kernel) (by decide) hQ (by decide) (by decide) ?_
          exact absurd c24 (nI_ge (by omega) (by omega))
        · refine zz_aload_n (q := 28) (f := 1) (i := 1) C (by decide +kernel) rfl rfl rfl ?_
          refine zz_getR (q := 31) C gf_L_36 (by decide +kernel) rfl hs9 hos.2.1 ?_
          refine zz_aload_n (q := 32) (f := 0) (i := 0) C (by decide +kernel) rfl rfl rfl ?_
          refine zz_getR (q := 35) C gf_L_9 (by decide +kernel) rfl (by first | rfl | assumption) hok.1 ?_
          refine zz_iload_n (q := 36) (f := 2) (i := 2) C (by decide +kernel) rfl rfl rfl ?_
          refine zz_iaload (q := 37) C (by decide +kernel) rfl rfl hok.2.2.2.1 rfl hi (by decide) ej9 ?_
          refine zz_iaload (q := 38) C (by decide +kernel) rfl rfl hos.2.2.1 rfl hj9 (by decide) rfl ?_
          refine zz_aload_n (q := 39) (f := 0) (i := 0) C (by decide +kernel) rfl rfl rfl ?_
          refine zz_getR (q := 42) C gf_L_15 (by decide +kernel) rfl (by first | rfl | assumption) hok.2.1 ?_
          refine zz_iload_n (q := 43) (f := 2) (i := 2) C (by decide +kernel) rfl rfl rfl ?_
          refine zz_iaload (q := 44) C (by decide +kernel) rfl rfl hok.2.2.2.2.1 rfl hi (by decide) rfl ?_
          refine zz_aload_n (q := 45) (f := 0) (i := 0) C (by decide +kernel) rfl rfl rfl ?_
          refine zz_getR (q := 48) C gf_L_18 (by decide +kernel) rfl (by first | rfl | assumption) hok.2.2.1 ?_
          refine zz_iload_n (q := 49) (f := 2) (i := 2) C (by decide +kernel) rfl rfl rfl ?_
          refine zz_iaload (q := 50) C (by decide +kernel) rfl rfl hok.2.2.2.2.2.1 rfl hi (by decide) rfl ?_
          refine zz_callS (q := 53) C (m_L_compares l) cs_L_37 (by decide +kernel) rfl rfl rfl (by decide) (by decide) (by decide) ⟨_, _, _, rfl, ?_⟩
          refine zz_if_ne (off := 5) (tgt := 58) (q := 56) C (by decide +kernel) (by decide) rfl (fun c53 => ?_) (fun c53 => ?_)
          · refine zz_iinc (q := 61) (i := 2) (n := 1) C (by decide +kernel) rfl rfl (nI_succ _).symm (by decide) rfl ?_
            refine zz_goto (off := -42) (tgt := 19) C (by decide +kernel) (by decide) ?_
            -- AT 19
            refine ih (i + 1) (by omega) (by omega) (fun j hj => ?_)
            rcases Nat.lt_succ_iff_lt_or_eq.mp hj with hj | rfl
            · exact hall j hj
            · have := zz_b_t c53
              unfold pl_one
              rw [ej9, nI_clamp (by omega)]
              exact this
          · refine zz_iconst (q := 57) (n := 0) (x := 0) C (by decide +kernel) rfl (by decide +kernel) ?_
            refine zz_zret C hr hlk (by decide +kernel) (by decide) hQ (by decide) (by decide) ?_
            refine zz_b0 (P := fun x => post (some (zz_i x)) h) hp (fun ⟨s8, e8, _, h8⟩ => ?_)
            rw [hs9] at e8
            cases e8
            have h7 := h8 i (by omega)
            unfold pl_one at h7
            rw [ej9, nI_clamp (by omega)] at h7
            exact zz_b_f c53 h7
    refine zz_aload_n (q := 1) (f := 1) (i := 1) C (by decide +kernel) rfl rfl rfl ?_
    refine zz_ifnull (off := 14) (tgt := 15) (q := 4) C (by decide +kernel) (by decide) rfl (fun c1 => ?_) (fun a1 c1 => ?_)
    · refine zz_iconst (q := 16) (n := 0) (x := 0) C (by decide +kernel) rfl (by decide +kernel) ?_
      refine zz_zret C hr hlk (by decide +kernel) (by decide) hQ (by decide) (by decide) ?_
      first | exact zz_b0 (P := fun x => post (some (zz_i x)) h) hp (fun ⟨s9, e9, e8, _⟩ => c12 (by rw [c1] at e9; cases e9; exact e8)) | exact zz_b0 (P := fun x => post (some (zz_i x)) h) hp (fun ⟨s9, e9, _⟩ => by rw [c1] at e9; cases e9)
    · refine zz_aload_n (q := 5) (f := 1) (i := 1) C (by decide +kernel) rfl rfl rfl ?_
      refine zz_getR (q := 8) C gf_L_33 (by decide +kernel) rfl (by first | rfl | assumption) rfl ?_
      refine zz_aload_n (q := 9) (f := 0) (i := 0) C (by decide +kernel) rfl rfl rfl ?_
      refine zz_getR (q := 12) C gf_L_21 (by decide +kernel) rfl (by first | rfl | assumption) rfl ?_
      refine zz_acmp_eq (off := 5) (tgt := 17) (q := 15) C (by decide +kernel) (by decide) rfl (fun c12 => ?_) (fun c12 => ?_)
      · refine zz_iconst (q := 18) (n := 0) (x := 0) C (by decide +kernel) rfl (by decide +kernel) ?_
        refine zz_istore_n (q := 19) (f := 2) (i := 2) C (by decide +kernel) rfl rfl (by decide) rfl ?_
        -- AT 19
        exact lp19 a1 c1 c12 (pl_c h a) 0 (by omega) (by omega) (fun i hi => absurd hi (by omega))
      · refine zz_iconst (q := 16) (n := 0) (x := 0) C (by decide +kernel) rfl (by decide +kernel) ?_
        refine zz_zret C hr hlk (by decide +kernel) (by decide) hQ (by decide) (by decide) ?_
        first | exact zz_b0 (P := fun x => post (some (zz_i x)) h) hp (fun ⟨s9, e9, e8, _⟩ => c12 (by rw [c1] at e9; cases e9; exact e8)) | exact zz_b0 (P := fun x => post (some (zz_i x)) h) hp (fun ⟨s9, e9, _⟩ => by rw [c1] at e9; cases e9)
end
section
/-! Path -/
theorem zz_m1 (n : Nat) : nI (n + 1) + Int32.ofInt (-1) = nI n := by
  have e : Int32.ofInt (-1) = -1 := by decide +kernel
  rw [e]
  exact pk_m1 n
def pa_a (h : zz_H) (a : Nat) : Nat := (zz_fR h 4 0 a).getD 0
def pa_l (h : zz_H) (a i : Nat) : Nat := (zz_aR h (pa_a h a) i).getD 0
def pa_ok (h : zz_H) (a : Nat) : Prop := zz_fR h 4 0 a = some (pa_a h a) ∧ zz_tg h (pa_a h a) = some (103, 4) ∧ ∀ i, i < 4 → zz_aR h (pa_a h a) i = some (pa_l h a i) ∧ pl_ok h (pa_l h a i)
def pa_fg (h : zz_H) (f : Nat → Nat) : Nat → zz_H
  | 0 => h
  | n + 1 => zz_pI (zz_pR (pa_fg h f n) 3 0 (f n) none) 3 1 (f n) 0
theorem pa_fg_same (h : zz_H) (f : Nat → Nat) : ∀ n, zz_tg (pa_fg h f n) = zz_tg h ∧ zz_aR (pa_fg h f n) = zz_aR h ∧ (∀ k, zz_fR (pa_fg h f n) 4 k = zz_fR h 4 k)
  | 0 => ⟨rfl, rfl, fun _ => rfl⟩
  | n + 1 => by
    obtain ⟨h1, h2, h3⟩ := pa_fg_same h f n
    refine ⟨h1, h2, fun k => ?_⟩
    funext b
    show zz_fR (zz_pI (zz_pR (pa_fg h f n) 3 0 (f n) none) 3 1 (f n) 0) 4 k b = _
    rw [zz_fR_pI, zz_fR_pR, if_neg (fun z => by omega), h3]
/-- the lowest level that is stated, among the first n -/
noncomputable def pa_low (h : zz_H) (a : Nat) : Nat → Nat
  | 0 => 0
  | n + 1 => @ite _ (zz_fR h 3 0 (pa_l h a n) ≠ none) (Classical.propDecidable _) (n + 1) (pa_low h a n)
theorem pa_low_T {h : zz_H} {a n : Nat} (e : zz_fR h 3 0 (pa_l h a n) ≠ none) : pa_low h a (n + 1) = n + 1 := by
  unfold pa_low
  exact if_pos e
theorem pa_low_F {h : zz_H} {a n : Nat} (e : ¬ zz_fR h 3 0 (pa_l h a n) ≠ none) : pa_low h a (n + 1) = pa_low h a n := by
  show @ite _ _ (Classical.propDecidable _) (n + 1) (pa_low h a n) = _
  exact if_neg e
theorem pa_low_le (h : zz_H) (a : Nat) : ∀ n, pa_low h a n ≤ n
  | 0 => Nat.le_refl _
  | n + 1 => by
    by_cases e : zz_fR h 3 0 (pa_l h a n) ≠ none
    · rw [pa_low_T e]; omega
    · rw [pa_low_F e]
      have := pa_low_le h a n
      omega
def pa_dn (h : zz_H) (a lv s : Nat) : Prop := ∀ i, i < lv → zz_fR h 3 0 (pa_l h a i) ≠ none → pl_met h (pa_l h a i) (sg_at h (nI (i + 1)) s)
def pa_met (h : zz_H) (a s : Nat) : Prop := pa_low h a 4 = 0 ∨ (sg_lv h s = nI (pa_low h a 4) ∧ pa_dn h a (pa_low h a 4) s)
theorem sg_up_tag {h : zz_H} (hty : zz_tyH h) (lv : Int32) : ∀ n a, (∃ na, zz_tg h a = some (2, na)) → ∃ nb, zz_tg h (sg_up h lv n a) = some (2, nb)
  | 0, _, ha => ha
  | n + 1, a, ha => by
    by_cases hl : sg_lv h a ≤ lv
    · rw [sg_up_le hl]; exact ha
    · cases hb : zz_fR h 2 2 a with
      | none => rw [sg_up_no hb]; exact ha
      | some b =>
        rw [sg_up_go hl hb]
        obtain ⟨na, hta⟩ := ha
        exact sg_up_tag hty lv n b (hty.1 a 2 na 2 2 hta (by decide) rfl b hb)
theorem sg_at_tag {h : zz_H} (hty : zz_tyH h) {lv : Int32} {a t : Nat} (ha : ∃ na, zz_tg h a = some (2, na)) (ht : sg_at h lv a = some t) : ∃ nt, zz_tg h t = some (2, nt) := by
  unfold sg_at at ht
  split at ht
  · cases ht
    exact sg_up_tag hty lv 3 a ha
  · cases ht
def T_P_forget : zz_Tr := fun as h post => ∃ a, as = [zz_r 4 (some a)] ∧ pa_ok h a ∧ post none (pa_fg h (pa_l h a) 4)
set_option maxRecDepth 100000 in
set_option maxHeartbeats 4000000 in
theorem m_P_forget (l : Launch) : zz_Met l y_P_forget w_P_forget { frames := 2, cells := 0, slots := 0, locals := 32 } T_P_forget := by
  refine zz_ofZ (by decide) (fun as h post hT => ?_) ?_
  · obtain ⟨a, rfl, hok, hp⟩ := hT
    exact ⟨by simp [zz_cat], by simp⟩
  · intro D DA h as post hT p e s m args below meth c Q C hr hlk hnm hQ
    obtain ⟨a, rfl, hok, hp⟩ := hT
    have lp2 : ∀ n i, n + i = 4 → zz_Z p l e { frames := 2, cells := 0, slots := 0, locals := 32 } s m args below meth c Q D DA (zz_A h s.heap.size) h 2 2 [some (zz_r 4 (some a)), some (zz_i (nI i))] [] (pa_fg h (pa_l h a) i) 0 0 := by
      intro n
      induction n with
      | zero =>
        intro i hi
        have hi : i = 4 := by omega
        subst hi
        refine zz_iload_n (q := 3) (f := 1) (i := 1) C (by decide +kernel) rfl rfl rfl ?_
        refine zz_iconst (q := 4) (n := 4) (x := 4) C (by decide +kernel) rfl (by decide +kernel) ?_
        refine zz_icmp_ge (off := 18) (tgt := 22) (q := 7) C (by decide +kernel) (by decide) rfl (fun c4 => ?_) (fun c4 => absurd (by decide) c4)
        exact zz_vret C hr hlk (by decide +kernel) hQ (by decide) (by decide) hp
      | succ n ih =>
        intro i hi
        obtain ⟨f1, f2, f3⟩ := pa_fg_same h (pa_l h a) i
        refine zz_iload_n (q := 3) (f := 1) (i := 1) C (by decide +kernel) rfl rfl rfl ?_
        refine zz_iconst (q := 4) (n := 4) (x := 4) C (by decide +kernel) rfl (by decide +kernel) ?_
        refine zz_icmp_ge (off := 18) (tgt := 22) (q := 7) C (by decide +kernel) (by decide) rfl (fun c4 => ?_) (fun c4 => ?_)
        · refine zz_vret C hr hlk (by decide +kernel) hQ (by decide) (by decide) ?_
          exact absurd c4 (nI_ge (b := 4) (by omega) (by decide))
        · refine zz_aload_n (q := 8) (f := 0) (i := 0) C (by decide +kernel) rfl rfl rfl ?_
          refine zz_getR (q := 11) C gf_P_11 (by decide +kernel) rfl (by first | rfl | assumption) ((congrFun (f3 0) a).trans hok.1) ?_
          refine zz_iload_n (q := 12) (f := 1) (i := 1) C (by decide +kernel) rfl rfl rfl ?_
          refine zz_aaload (q := 13) C 5 rfl (by decide) (by decide +kernel) rfl rfl (by rw [f1]; exact hok.2.1) rfl (by omega) (by decide) ((congrFun (congrFun f2 _) i).trans (hok.2.2 i (by omega)).1) ?_
          refine zz_callV (q := 16) C (m_L_forget l) cv_P_18 (by decide +kernel) rfl rfl rfl (by first | rfl | assumption) (by decide) (by decide) (Nat.le_of_ble_eq_true rfl) ⟨_, rfl, ?_⟩
          refine zz_iinc (q := 19) (i := 1) (n := 1) C (by decide +kernel) rfl rfl (nI_succ _).symm (by decide) rfl ?_
          refine zz_goto (off := -17) (tgt := 2) C (by decide +kernel) (by decide) ?_
          -- AT 2
          exact ih (i + 1) (by omega)
    refine zz_iconst (q := 1) (n := 0) (x := 0) C (by decide +kernel) rfl (by decide +kernel) ?_
    refine zz_istore_n (q := 2) (f := 1) (i := 1) C (by decide +kernel) rfl rfl (by decide) rfl ?_
    -- AT 2
    exact lp2 4 0 rfl

def T_P_state : zz_Tr := fun as h post => ∃ a k lv, as = [zz_r 4 (some a), zz_r 1 (some k)] ∧ pa_ok h a ∧ lv < 4 ∧ zz_fI h 1 2 k = nI (lv + 1) ∧ ((zz_fR h 3 0 (pa_l h a lv) ≠ none ∧ zz_fR h 3 0 (pa_l h a lv) ≠ some k) → post (some (zz_i 0)) h) ∧ (¬ (zz_fR h 3 0 (pa_l h a lv) ≠ none ∧ zz_fR h 3 0 (pa_l h a lv) ≠ some k) → post (some (zz_i 1)) (zz_pR h 3 0 (pa_l h a lv) (some k)))
set_option maxRecDepth 100000 in
set_option maxHeartbeats 4000000 in
theorem m_P_state (l : Launch) : zz_Met l y_P_state w_P_state { frames := 2, cells := 0, slots := 0, locals := 33 } T_P_state := by
  refine zz_ofZ (by decide) (fun as h post hT => ?_) ?_
  · obtain ⟨a, k, lv, rfl, hok, hl4, hlv, h1, h2⟩ := hT
    exact ⟨by simp [zz_cat], by simp⟩
  · intro D DA h as post hT p e s m args below meth c Q C hr hlk hnm hQ
    obtain ⟨a, k, lv, rfl, hok, hl4, hlv, h1, h2⟩ := hT
    refine zz_aload_n (q := 1) (f := 0) (i := 0) C (by decide +kernel) rfl rfl rfl ?_
    refine zz_getR (q := 4) C gf_P_11 (by decide +kernel) rfl (by first | rfl | assumption) hok.1 ?_
    refine zz_aload_n (q := 5) (f := 1) (i := 1) C (by decide +kernel) rfl rfl rfl ?_
    refine zz_getI (q := 8) C gf_P_21 (by decide +kernel) rfl (by first | rfl | assumption) hlv ?_
    refine zz_iconst (q := 9) (n := 1) (x := 1) C (by decide +kernel) rfl (by decide +kernel) ?_
    refine zz_isub (q := 10) C (by decide +kernel) rfl (nI_pred lv) ?_
    refine zz_aaload (q := 11) C 5 rfl (by decide) (by decide +kernel) rfl rfl hok.2.1 rfl hl4 (by decide) (hok.2.2 lv hl4).1 ?_
    refine zz_aload_n (q := 12) (f := 1) (i := 1) C (by decide +kernel) rfl rfl rfl ?_
    refine zz_callV (q := 15) C (m_L_state l) cv_P_27 (by decide +kernel) rfl rfl rfl (by first | rfl | assumption) (by decide) (by decide) (Nat.le_of_ble_eq_true rfl) ⟨_, _, rfl, fun z => ?_, fun z => ?_⟩
    · refine zz_zret C hr hlk (by decide +kernel) (by decide) hQ (by decide) (by decide) ?_
      exact h1 z
    · refine zz_zret C hr hlk (by decide +kernel) (by decide) hQ (by decide) (by decide) ?_
      exact h2 z

def T_P_addCondition : zz_Tr := fun as h post => ∃ a k w q n lv, as = [zz_r 4 (some a), zz_r 1 (some k), zz_i w, zz_i q, zz_i n] ∧ pa_ok h a ∧ lv < 4 ∧ zz_fI h 1 2 k = nI (lv + 1) ∧ ((3 ≤ pl_c h (pa_l h a lv) ∨ (zz_fR h 3 0 (pa_l h a lv) ≠ none ∧ zz_fR h 3 0 (pa_l h a lv) ≠ some k)) → post (some (zz_i 0)) h) ∧ (¬ (3 ≤ pl_c h (pa_l h a lv) ∨ (zz_fR h 3 0 (pa_l h a lv) ≠ none ∧ zz_fR h 3 0 (pa_l h a lv) ≠ some k)) → post (some (zz_i 1)) (zz_pI (zz_sI (zz_sI (zz_sI (zz_pR h 3 0 (pa_l h a lv) (some k)) (pl_w h (pa_l h a lv)) (pl_c h (pa_l h a lv)) w) (pl_o h (pa_l h a lv)) (pl_c h (pa_l h a lv)) q) (pl_n h (pa_l h a lv)) (pl_c h (pa_l h a lv)) n) 3 1 (pa_l h a lv) (nI (pl_c h (pa_l h a lv) + 1))))
set_option maxRecDepth 100000 in
set_option maxHeartbeats 4000000 in
theorem m_P_addCondition (l : Launch) : zz_Met l y_P_addCondition w_P_addCondition { frames := 3, cells := 0, slots := 0, locals := 57 } T_P_addCondition := by
  refine zz_ofZ (by decide) (fun as h post hT => ?_) ?_
  · obtain ⟨a, k, w, q, n, lv, rfl, hok, hl4, hlv, h1, h2⟩ := hT
    exact ⟨by simp [zz_cat], by simp⟩
  · intro D DA h as post hT p e s m args below meth c Q C hr hlk hnm hQ
    obtain ⟨a, k, w, q, n, lv, rfl, hok, hl4, hlv, h1, h2⟩ := hT
    refine zz_aload_n (q := 1) (f := 0) (i := 0) C (by decide +kernel) rfl rfl rfl ?_
    refine zz_getR (q := 4) C gf_P_11 (by decide +kernel) rfl (by first | rfl | assumption) hok.1 ?_
    refine zz_aload_n (q := 5) (f := 1) (i := 1) C (by decide +kernel) rfl rfl rfl ?_
    refine zz_getI (q := 8) C gf_P_21 (by decide +kernel) rfl (by first | rfl | assumption) hlv ?_
    refine zz_iconst (q := 9) (n := 1) (x := 1) C (by decide +kernel) rfl (by decide +kernel) ?_
    refine zz_isub (q := 10) C (by decide +kernel) rfl (nI_pred lv) ?_
    refine zz_aaload (q := 11) C 5 rfl (by decide) (by decide +kernel) rfl rfl hok.2.1 rfl hl4 (by decide) (hok.2.2 lv hl4).1 ?_
    refine zz_aload_n (q := 12) (f := 1) (i := 1) C (by decide +kernel) rfl rfl rfl ?_
    refine zz_iload_n (q := 13) (f := 2) (i := 2) C (by decide +kernel) rfl rfl rfl ?_
    refine zz_iload_n (q := 14) (f := 3) (i := 3) C (by decide +kernel) rfl rfl rfl ?_
    refine zz_iload (q := 16) (i := 4) C (by decide +kernel) rfl rfl ?_
    refine zz_callV (q := 19) C (m_L_addCondition l) cv_P_31 (by decide +kernel) rfl rfl rfl (by first | rfl | assumption) (by decide) (by decide) (Nat.le_of_ble_eq_true rfl) ⟨_, _, _, _, _, rfl, (hok.2.2 lv hl4).2, fun z => ?_, fun z => ?_⟩
    · refine zz_zret C hr hlk (by decide +kernel) (by decide) hQ (by decide) (by decide) ?_
      exact h1 z
    · refine zz_zret C hr hlk (by decide +kernel) (by decide) hQ (by decide) (by decide) ?_
      exact h2 z

def T_P_lowestStated : zz_Tr := fun as h post => ∃ a, as = [zz_r 4 (some a)] ∧ pa_ok h a ∧ post (some (zz_i (nI (pa_low h a 4)))) h
set_option maxRecDepth 100000 in
set_option maxHeartbeats 4000000 in
theorem m_P_lowestStated (l : Launch) : zz_Met l y_P_lowestStated w_P_lowestStated { frames := 2, cells := 0, slots := 0, locals := 32 } T_P_lowestStated := by
  refine zz_ofZ (by decide) (fun as h post hT => ?_) ?_
  · obtain ⟨a, rfl, hok, hp⟩ := hT
    exact ⟨by simp [zz_cat], by simp⟩
  · intro D DA h as post hT p e s m args below meth c Q C hr hlk hnm hQ
    obtain ⟨a, rfl, hok, hp⟩ := hT
    have lp2 : ∀ n, n ≤ 4 → post (some (zz_i (nI (pa_low h a n)))) h → zz_Z p l e { frames := 2, cells := 0, slots := 0, locals := 32 } s m args below meth c Q D DA (zz_A h s.heap.size) h 2 2 [some (zz_r 4 (some a)), some (zz_i (nI n))] [] h 0 0 := by
      intro n
      induction n with
      | zero =>
        intro _ hp
        refine zz_iload_n (q := 3) (f := 1) (i := 1) C (by decide +kernel) rfl rfl rfl ?_
        refine zz_if_le (off := 25) (tgt := 28) (q := 6) C (by decide +kernel) (by decide) rfl (fun c3 => ?_) (fun c3 => absurd (by decide) c3)
        refine zz_iconst (q := 29) (n := 0) (x := 0) C (by decide +kernel) rfl (by decide +kernel) ?_
        exact zz_iret C hr hlk (by decide +kernel) hQ (by decide) (by decide) hp
      | succ n ih =>
        intro hn hp
        refine zz_iload_n (q := 3) (f := 1) (i := 1) C (by decide +kernel) rfl rfl rfl ?_
        refine zz_if_le (off := 25) (tgt := 28) (q := 6) C (by decide +kernel) (by decide) rfl (fun c3 => ?_) (fun c3 => ?_)
        · refine zz_iconst (q := 29) (n := 0) (x := 0) C (by decide +kernel) rfl (by decide +kernel) ?_
          refine zz_iret C hr hlk (by decide +kernel) hQ (by decide) (by decide) ?_
          exact absurd c3 (nI_nle (by omega) (by omega))
        · refine zz_aload_n (q := 7) (f := 0) (i := 0) C (by decide +kernel) rfl rfl rfl ?_
          refine zz_getR (q := 10) C gf_P_11 (by decide +kernel) rfl (by first | rfl | assumption) hok.1 ?_
          refine zz_iload_n (q := 11) (f := 1) (i := 1) C (by decide +kernel) rfl rfl rfl ?_
          refine zz_iconst (q := 12) (n := 1) (x := 1) C (by decide +kernel) rfl (by decide +kernel) ?_
          refine zz_isub (q := 13) C (by decide +kernel) rfl (nI_pred n) ?_
          refine zz_aaload (q := 14) C 5 rfl (by decide) (by decide +kernel) rfl rfl hok.2.1 rfl (by omega) (by decide) (hok.2.2 n (by omega)).1 ?_
          refine zz_callV (q := 17) C (m_L_isStated l) cv_P_49 (by decide +kernel) rfl rfl rfl (by first | rfl | assumption) (by decide) (by decide) (Nat.le_of_ble_eq_true rfl) ⟨_, rfl, ?_⟩
          refine zz_if_eq (off := 5) (tgt := 22) (q := 20) C (by decide +kernel) (by decide) rfl (fun c17 => ?_) (fun c17 => ?_)
          · refine zz_iinc (q := 25) (i := 1) (n := -1) C (by decide +kernel) rfl rfl (zz_m1 n) (by decide) rfl ?_
            refine zz_goto (off := -23) (tgt := 2) C (by decide +kernel) (by decide) ?_
            -- AT 2
            rw [pa_low_F (zz_b_f c17)] at hp
            exact ih (by omega) hp
          · refine zz_iload_n (q := 21) (f := 1) (i := 1) C (by decide +kernel) rfl rfl rfl ?_
            refine zz_iret C hr hlk (by decide +kernel) hQ (by decide) (by decide) ?_
            rw [pa_low_T (zz_b_t c17)] at hp
            exact hp
    refine zz_iconst (q := 1) (n := 4) (x := 4) C (by decide +kernel) rfl (by decide +kernel) ?_
    refine zz_istore_n (q := 2) (f := 1) (i := 1) C (by decide +kernel) rfl rfl (by decide) rfl ?_
    -- AT 2
    exact lp2 4 (by omega) hp

def T_P_isMetDownTo : zz_Tr := fun as h post => ∃ a lv s, as = [zz_r 4 (some a), zz_i (nI lv), zz_r 2 (some s)] ∧ lv ≤ 4 ∧ pa_ok h a ∧ sg_wf h ∧ post (some (zz_i (zz_b (pa_dn h a lv s)))) h
set_option maxRecDepth 100000 in
set_option maxHeartbeats 4000000 in
theorem m_P_isMetDownTo (l : Launch) : zz_Met l y_P_isMetDownTo w_P_isMetDownTo { frames := 3, cells := 0, slots := 0, locals := 56 } T_P_isMetDownTo := by
  refine zz_ofZ (by decide) (fun as h post hT => ?_) ?_
  · obtain ⟨a, lv, s9, rfl, hlv, hok, hwf, hp⟩ := hT
    exact ⟨by simp [zz_cat], by simp⟩
  · intro D DA h as post hT p e s m args below meth c Q C hr hlk hnm hQ
    obtain ⟨a, lv, s9, rfl, hlv, hok, hwf, hp⟩ := hT
    refine zz_know (fun hty _ hTL _ => ?_)
    have hts : ∃ ns, zz_tg h s9 = some (2, ns) := hTL 2 _ rfl s9 rfl
    have lp2 : ∀ n i, n + i = lv → ∀ v9, (∀ j, j < i → zz_fR h 3 0 (pa_l h a j) ≠ none → pl_met h (pa_l h a j) (sg_at h (nI (j + 1)) s9)) → zz_Z p l e { frames := 3, cells := 0, slots := 0, locals := 56 } s m args below meth c Q D DA (zz_A h s.heap.size) h 5 2 [some (zz_r 4 (some a)), some (zz_i (nI lv)), some (zz_r 2 (some s9)), some (zz_i (nI (i + 1))), v9] [] h 0 0 := by
      intro n
      induction n with
      | zero =>
        intro i hi v9 hall
        have hi : i = lv := by omega
        subst hi
        refine zz_iload_n (q := 3) (f := 3) (i := 3) C (by decide +kernel) rfl rfl rfl ?_
        refine zz_iload_n (q := 4) (f := 1) (i := 1) C (by decide +kernel) rfl rfl rfl ?_
        refine zz_icmp_gt (off := 47) (tgt := 51) (q := 7) C (by decide +kernel) (by decide) rfl (fun c4 => ?_) (fun c4 => absurd (nI_lt (by omega) (by omega)) c4)
        refine zz_iconst (q := 52) (n := 1) (x := 1) C (by decide +kernel) rfl (by decide +kernel) ?_
        refine zz_zret C hr hlk (by decide +kernel) (by decide) hQ (by decide) (by decide) ?_
        exact zz_b1 (P := fun x => post (some (zz_i x)) h) hp (fun j hj hn => hall j hj hn)
      | succ n ih =>
        intro i hi v9 hall
        refine zz_iload_n (q := 3) (f := 3) (i := 3) C (by decide +kernel) rfl rfl rfl ?_
        refine zz_iload_n (q := 4) (f := 1) (i := 1) C (by decide +kernel) rfl rfl rfl ?_
        refine zz_icmp_gt (off := 47) (tgt := 51) (q := 7) C (by decide +kernel) (by decide) rfl (fun c4 => ?_) (fun c4 => ?_)
        · refine zz_iconst (q := 52) (n := 1) (x := 1) C (by decide +kernel) rfl (by decide +kernel) ?_
          refine zz_zret C hr hlk (by decide +kernel) (by decide) hQ (by decide) (by decide) ?_
          first | exact absurd c9 (nI_nlt (a := 4) (b := i + 1) (by omega) (by decide)) | exact absurd c4 (nI_nlt (by omega) (by omega))
        · refine zz_iload_n (q := 8) (f := 3) (i := 3) C (by decide +kernel) rfl rfl rfl ?_
          refine zz_iconst (q := 9) (n := 4) (x := 4) C (by decide +kernel) rfl (by decide +kernel) ?_
          refine zz_icmp_gt (off := 42) (tgt := 51) (q := 12) C (by decide +kernel) (by decide) rfl (fun c9 => ?_) (fun c9 => ?_)
          · refine zz_iconst (q := 52) (n := 1) (x := 1) C (by decide +kernel) rfl (by decide +kernel) ?_
            refine zz_zret C hr hlk (by decide +kernel) (by decide) hQ (by decide) (by decide) ?_
            first | exact absurd c9 (nI_nlt (a := 4) (b := i + 1) (by omega) (by decide)) | exact absurd c4 (nI_nlt (by omega) (by omega))
          · refine zz_aload_n (q := 13) (f := 0) (i := 0) C (by decide +kernel) rfl rfl rfl ?_
            refine zz_getR (q := 16) C gf_P_11 (by decide +kernel) rfl (by first | rfl | assumption) hok.1 ?_
            refine zz_iload_n (q := 17) (f := 3) (i := 3) C (by decide +kernel) rfl rfl rfl ?_
            refine zz_iconst (q := 18) (n := 1) (x := 1) C (by decide +kernel) rfl (by decide +kernel) ?_
            refine zz_isub (q := 19) C (by decide +kernel) rfl (nI_pred i) ?_
            refine zz_aaload (q := 20) C 5 rfl (by decide) (by decide +kernel) rfl rfl hok.2.1 rfl (by omega) (by decide) (hok.2.2 i (by omega)).1 ?_
            refine zz_astore (q := 22) (i := 4) C (by decide +kernel) rfl (by decide) rfl ?_
            refine zz_aload (q := 24) (i := 4) C (by decide +kernel) rfl rfl ?_
            refine zz_callV (q := 27) C (m_L_isStated l) cv_P_49 (by decide +kernel) rfl rfl rfl (by first | rfl | assumption) (by decide) (by decide) (Nat.le_of_ble_eq_true rfl) ⟨_, rfl, ?_⟩
            refine zz_if_eq (off := 18) (tgt := 45) (q := 30) C (by decide +kernel) (by decide) rfl (fun c27 => ?_) (fun c27 => ?_)
            · refine zz_iinc (q := 48) (i := 3) (n := 1) C (by decide +kernel) rfl rfl (nI_succ _).symm (by decide) rfl ?_
              refine zz_goto (off := -46) (tgt := 2) C (by decide +kernel) (by decide) ?_
              -- AT 2
              refine ih (i + 1) (by omega) _ (fun j hj hn => ?_)
              rcases Nat.lt_succ_iff_lt_or_eq.mp hj with hj | rfl
              · exact hall j hj hn
              · first | exact zz_b_t c40 | exact absurd hn (zz_b_f c27)
            · refine zz_aload (q := 32) (i := 4) C (by decide +kernel) rfl rfl ?_
              refine zz_aload_n (q := 33) (f := 2) (i := 2) C (by decide +kernel) rfl rfl rfl ?_
              refine zz_iload_n (q := 34) (f := 3) (i := 3) C (by decide +kernel) rfl rfl rfl ?_
              refine zz_callV (q := 37) C (m_S_atLevel l) cv_P_53 (by decide +kernel) rfl rfl rfl (by first | rfl | assumption) (by decide) (by decide) (Nat.le_of_ble_eq_true rfl) ⟨_, _, rfl, hwf, ?_⟩
              refine zz_callV (q := 40) C (m_L_isMetBy l) cv_P_57 (by decide +kernel) rfl rfl rfl (by first | rfl | assumption) (by decide) (by decide) (Nat.le_of_ble_eq_true rfl) ⟨_, _, rfl, (hok.2.2 i (by omega)).2, fun t9 e9 => (by obtain ⟨nt, htt⟩ := sg_at_tag hty hts e9; exact hwf t9 nt htt), ?_⟩
              refine zz_if_ne (off := 5) (tgt := 45) (q := 43) C (by decide +kernel) (by decide) rfl (fun c40 => ?_) (fun c40 => ?_)
              · refine zz_iinc (q := 48) (i := 3) (n := 1) C (by decide +kernel) rfl rfl (nI_succ _).symm (by decide) rfl ?_
                refine zz_goto (off := -46) (tgt := 2) C (by decide +kernel) (by decide) ?_
                -- AT 2
                refine ih (i + 1) (by omega) _ (fun j hj hn => ?_)
                rcases Nat.lt_succ_iff_lt_or_eq.mp hj with hj | rfl
                · exact hall j hj hn
                · first | exact zz_b_t c40 | exact absurd hn (zz_b_f c27)
              · refine zz_iconst (q := 44) (n := 0) (x := 0) C (by decide +kernel) rfl (by decide +kernel) ?_
                refine zz_zret C hr hlk (by decide +kernel) (by decide) hQ (by decide) (by decide) ?_
                exact zz_b0 (P := fun x => post (some (zz_i x)) h) hp (fun z => zz_b_f c40 (z i (by omega) (zz_b_t c27)))
    refine zz_iconst (q := 1) (n := 1) (x := 1) C (by decide +kernel) rfl (by decide +kernel) ?_
    refine zz_istore_n (q := 2) (f := 3) (i := 3) C (by decide +kernel) rfl rfl (by decide) rfl ?_
    -- AT 2
    exact lp2 lv 0 (by omega) none (fun j hj => absurd hj (by omega))

def T_P_isMetBy : zz_Tr := fun as h post => ∃ a s, as = [zz_r 4 (some a), zz_r 2 (some s)] ∧ pa_ok h a ∧ sg_wf h ∧ post (some (zz_i (zz_b (pa_met h a s)))) h
set_option maxRecDepth 100000 in
set_option maxHeartbeats 4000000 in
theorem m_P_isMetBy (l : Launch) : zz_Met l y_P_isMetBy w_P_isMetBy { frames := 4, cells := 0, slots := 0, locals := 80 } T_P_isMetBy := by
  refine zz_ofZ (by decide) (fun as h post hT => ?_) ?_
  · obtain ⟨a, s9, rfl, hok, hwf, hp⟩ := hT
    exact ⟨by simp [zz_cat], by simp⟩
  · intro D DA h as post hT p e s m args below meth c Q C hr hlk hnm hQ
    obtain ⟨a, s9, rfl, hok, hwf, hp⟩ := hT
    refine zz_know (fun hty _ hTL _ => ?_)
    obtain ⟨ns, hts⟩ := hTL 1 _ rfl s9 rfl
    have hos := hwf s9 ns hts
    refine zz_aload_n (q := 1) (f := 0) (i := 0) C (by decide +kernel) rfl rfl rfl ?_
    refine zz_callV (q := 4) C (m_P_lowestStated l) cv_P_35 (by decide +kernel) rfl rfl rfl (by first | rfl | assumption) (by decide) (by decide) (Nat.le_of_ble_eq_true rfl) ⟨_, rfl, hok, ?_⟩
    refine zz_istore_n (q := 5) (f := 2) (i := 2) C (by decide +kernel) rfl rfl (by decide) rfl ?_
    refine zz_iload_n (q := 6) (f := 2) (i := 2) C (by decide +kernel) rfl rfl rfl ?_
    refine zz_if_eq (off := 23) (tgt := 29) (q := 9) C (by decide +kernel) (by decide) rfl (fun c6 => ?_) (fun c6 => ?_)
    · refine zz_iconst (q := 30) (n := 1) (x := 1) C (by decide +kernel) rfl (by decide +kernel) ?_
      refine zz_goto (off := 4) (tgt := 34) C (by decide +kernel) (by decide) ?_
      refine zz_zret C hr hlk (by decide +kernel) (by decide) hQ (by decide) (by decide) ?_
      first | exact zz_b1 (P := fun x => post (some (zz_i x)) h) hp (Or.inr ⟨c17, zz_b_t c26⟩) | exact zz_b0 (P := fun x => post (some (zz_i x)) h) hp (fun z => z.elim n6 (fun w => zz_b_f c26 w.2)) | exact zz_b0 (P := fun x => post (some (zz_i x)) h) hp (fun z => z.elim n6 (fun w => c17 w.1)) | exact zz_b1 (P := fun x => post (some (zz_i x)) h) hp (Or.inl ((nI_eq (by have := pa_low_le h a 4; omega) (by decide)).mp c6))
    · have n6 : ¬ pa_low h a 4 = 0 := fun z => c6 (by rw [z]; rfl)
      refine zz_aload_n (q := 10) (f := 1) (i := 1) C (by decide +kernel) rfl rfl rfl ?_
      refine zz_getR (q := 13) C gf_P_39 (by decide +kernel) rfl (by first | rfl | assumption) hos.1 ?_
      refine zz_getI (q := 16) C gf_P_21 (by decide +kernel) rfl (by first | rfl | assumption) rfl ?_
      refine zz_iload_n (q := 17) (f := 2) (i := 2) C (by decide +kernel) rfl rfl rfl ?_
      refine zz_icmp_ne (off := 16) (tgt := 33) (q := 20) C (by decide +kernel) (by decide) rfl (fun c17 => ?_) (fun c17 => ?_)
      · refine zz_iconst (q := 34) (n := 0) (x := 0) C (by decide +kernel) rfl (by decide +kernel) ?_
        refine zz_zret C hr hlk (by decide +kernel) (by decide) hQ (by decide) (by decide) ?_
        first | exact zz_b1 (P := fun x => post (some (zz_i x)) h) hp (Or.inr ⟨c17, zz_b_t c26⟩) | exact zz_b0 (P := fun x => post (some (zz_i x)) h) hp (fun z => z.elim n6 (fun w => zz_b_f c26 w.2)) | exact zz_b0 (P := fun x => post (some (zz_i x)) h) hp (fun z => z.elim n6 (fun w => c17 w.1)) | exact zz_b1 (P := fun x => post (some (zz_i x)) h) hp (Or.inl ((nI_eq (by have := pa_low_le h a 4; omega) (by decide)).mp c6))
      · refine zz_aload_n (q := 21) (f := 0) (i := 0) C (by decide +kernel) rfl rfl rfl ?_
        refine zz_iload_n (q := 22) (f := 2) (i := 2) C (by decide +kernel) rfl rfl rfl ?_
        refine zz_aload_n (q := 23) (f := 1) (i := 1) C (by decide +kernel) rfl rfl rfl ?_
        refine zz_callV (q := 26) C (m_P_isMetDownTo l) cv_P_45 (by decide +kernel) rfl rfl rfl (by first | rfl | assumption) (by decide) (by decide) (Nat.le_of_ble_eq_true rfl) ⟨_, _, _, rfl, pa_low_le h a 4, hok, hwf, ?_⟩
        refine zz_if_eq (off := 7) (tgt := 33) (q := 29) C (by decide +kernel) (by decide) rfl (fun c26 => ?_) (fun c26 => ?_)
        · refine zz_iconst (q := 34) (n := 0) (x := 0) C (by decide +kernel) rfl (by decide +kernel) ?_
          refine zz_zret C hr hlk (by decide +kernel) (by decide) hQ (by decide) (by decide) ?_
          first | exact zz_b1 (P := fun x => post (some (zz_i x)) h) hp (Or.inr ⟨c17, zz_b_t c26⟩) | exact zz_b0 (P := fun x => post (some (zz_i x)) h) hp (fun z => z.elim n6 (fun w => zz_b_f c26 w.2)) | exact zz_b0 (P := fun x => post (some (zz_i x)) h) hp (fun z => z.elim n6 (fun w => c17 w.1)) | exact zz_b1 (P := fun x => post (some (zz_i x)) h) hp (Or.inl ((nI_eq (by have := pa_low_le h a 4; omega) (by decide)).mp c6))
        · refine zz_iconst (q := 30) (n := 1) (x := 1) C (by decide +kernel) rfl (by decide +kernel) ?_
          refine zz_goto (off := 4) (tgt := 34) C (by decide +kernel) (by decide) ?_
          refine zz_zret C hr hlk (by decide +kernel) (by decide) hQ (by decide) (by decide) ?_
          first | exact zz_b1 (P := fun x => post (some (zz_i x)) h) hp (Or.inr ⟨c17, zz_b_t c26⟩) | exact zz_b0 (P := fun x => post (some (zz_i x)) h) hp (fun z => z.elim n6 (fun w => zz_b_f c26 w.2)) | exact zz_b0 (P := fun x => post (some (zz_i x)) h) hp (fun z => z.elim n6 (fun w => c17 w.1)) | exact zz_b1 (P := fun x => post (some (zz_i x)) h) hp (Or.inl ((nI_eq (by have := pa_low_le h a 4; omega) (by decide)).mp c6))
end
section
/-! Order: what is read of it -/
def or_b (h : zz_H) (a : Nat) : Nat := (zz_fR h 5 0 a).getD 0
def or_n (h : zz_H) (a : Nat) : Nat := (zz_fR h 5 1 a).getD 0
def or_s (h : zz_H) (a : Nat) : Nat := (zz_fI h 5 2 a).toNatClampNeg
def or_B (h : zz_H) (a i : Nat) : Nat := (zz_aR h (or_b h a) i).getD 0
def or_N (h : zz_H) (a i : Nat) : Nat := (zz_aR h (or_n h a) i).getD 0
def or_ok (h : zz_H) (a : Nat) : Prop := zz_fR h 5 0 a = some (or_b h a) ∧ zz_fR h 5 1 a = some (or_n h a) ∧ zz_tg h (or_b h a) = some (102, 60) ∧ zz_tg h (or_n h a) = some (102, 60) ∧ or_b h a ≠ or_n h a ∧ or_s h a ≤ 60 ∧ zz_fI h 5 2 a = nI (or_s h a)
def or_okN (h : zz_H) (a : Nat) : Prop := or_ok h a ∧ ∀ i, i < or_s h a → zz_aR h (or_n h a) i = some (or_N h a i)
def or_okB (h : zz_H) (a : Nat) : Prop := or_ok h a ∧ ∀ i, i < or_s h a → zz_aR h (or_b h a) i = some (or_B h a i)
/-- the first place from f on, below n, at which P holds, by what N names there -/
def or_first (n f : Nat) (P : Nat → Prop) (N : Nat → Nat) (r : Option Nat) : Prop := (r = none ∧ ∀ j, f ≤ j → j < n → ¬ P j) ∨ ∃ i, f ≤ i ∧ i < n ∧ P i ∧ (∀ j, f ≤ j → j < i → ¬ P j) ∧ r = some (N i)
theorem or_next {P : Nat → Prop} {f i : Nat} (h : ∀ j, f ≤ j → j < i → ¬ P j) (hi : ¬ P i) : ∀ j, f ≤ j → j < i + 1 → ¬ P j := fun j h1 h2 => by
  rcases Nat.lt_succ_iff_lt_or_eq.mp h2 with h2 | rfl
  · exact h j h1 h2
  · exact hi
def T_O_nameSecond : zz_Tr := fun as h post => ∃ a k w, as = [zz_r 5 (some a), zz_r 1 k, zz_i w] ∧ post none (zz_pI (zz_pR h 5 3 a k) 5 4 a w)
set_option maxRecDepth 100000 in
set_option maxHeartbeats 4000000 in
theorem m_O_nameSecond (l : Launch) : zz_Met l y_O_nameSecond w_O_nameSecond { frames := 1, cells := 0, slots := 0, locals := 12 } T_O_nameSecond := by
  refine zz_ofZ (by decide) (fun as h post hT => ?_) ?_
  · obtain ⟨a, k, w, rfl, hp⟩ := hT
    exact ⟨by simp [zz_cat], by simp⟩
  · intro D DA h as post hT p e s m args below meth c Q C hr hlk hnm hQ
    obtain ⟨a, k, w, rfl, hp⟩ := hT
    refine zz_aload_n (q := 1) (f := 0) (i := 0) C (by decide +kernel) rfl rfl rfl ?_
    refine zz_aload_n (q := 2) (f := 1) (i := 1) C (by decide +kernel) rfl rfl rfl ?_
    refine zz_putR (q := 5) C gf_O_20 (fun h => by cases h) (by decide +kernel) rfl (by first | rfl | assumption) ?_
    refine zz_aload_n (q := 6) (f := 0) (i := 0) C (by decide +kernel) rfl rfl rfl ?_
    refine zz_iload_n (q := 7) (f := 2) (i := 2) C (by decide +kernel) rfl rfl rfl ?_
    refine zz_putI (q := 10) C gf_O_24 (fun h => by cases h) (fun h => by cases h) (by decide +kernel) rfl (by first | rfl | assumption) ?_
    refine zz_vret C hr hlk (by decide +kernel) hQ (by decide) (by decide) ?_
    exact hp

def T_O_hasSecond : zz_Tr := fun as h post => ∃ a, as = [zz_r 5 (some a)] ∧ post (some (zz_i (zz_b (zz_fR h 5 3 a ≠ none)))) h
set_option maxRecDepth 100000 in
set_option maxHeartbeats 4000000 in
theorem m_O_hasSecond (l : Launch) : zz_Met l y_O_hasSecond w_O_hasSecond { frames := 1, cells := 0, slots := 0, locals := 12 } T_O_hasSecond := by
  refine zz_ofZ (by decide) (fun as h post hT => ?_) ?_
  · obtain ⟨a, rfl, hp⟩ := hT
    exact ⟨by simp [zz_cat], by simp⟩
  · intro D DA h as post hT p e s m args below meth c Q C hr hlk hnm hQ
    obtain ⟨a, rfl, hp⟩ := hT
    refine zz_aload_n (q := 1) (f := 0) (i := 0) C (by decide +kernel) rfl rfl rfl ?_
    refine zz_getR (q := 4) C gf_O_20 (by decide +kernel) rfl (by first | rfl | assumption) rfl ?_
    refine zz_ifnull (off := 7) (tgt := 11) (q := 7) C (by decide +kernel) (by decide) rfl (fun c4 => ?_) (fun a4 c4 => ?_)
    · refine zz_iconst (q := 12) (n := 0) (x := 0) C (by decide +kernel) rfl (by decide +kernel) ?_
      refine zz_zret C hr hlk (by decide +kernel) (by decide) hQ (by decide) (by decide) ?_
      first | exact zz_b0 (P := fun x => post (some (zz_i x)) h) hp (fun z => z c4) | exact zz_b1 (P := fun x => post (some (zz_i x)) h) hp (by rw [c4]; exact fun z => by cases z)
    · refine zz_iconst (q := 8) (n := 1) (x := 1) C (by decide +kernel) rfl (by decide +kernel) ?_
      refine zz_goto (off := 4) (tgt := 12) C (by decide +kernel) (by decide) ?_
      refine zz_zret C hr hlk (by decide +kernel) (by decide) hQ (by decide) (by decide) ?_
      first | exact zz_b0 (P := fun x => post (some (zz_i x)) h) hp (fun z => z c4) | exact zz_b1 (P := fun x => post (some (zz_i x)) h) hp (by rw [c4]; exact fun z => by cases z)

def T_O_indexOf : zz_Tr := fun as h post => ∃ a sg, as = [zz_r 5 (some a), zz_r 2 sg] ∧ or_okN h a ∧ ∀ i, i ≤ or_s h a → (∀ j, j < i → zz_aR h (or_n h a) j ≠ sg) → (i < or_s h a → zz_aR h (or_n h a) i = sg) → post (some (zz_i (nI i))) h
set_option maxRecDepth 100000 in
set_option maxHeartbeats 4000000 in
theorem m_O_indexOf (l : Launch) : zz_Met l y_O_indexOf w_O_indexOf { frames := 1, cells := 0, slots := 0, locals := 12 } T_O_indexOf := by
  refine zz_ofZ (by decide) (fun as h post hT => ?_) ?_
  · obtain ⟨a, sg, rfl, hok, hp⟩ := hT
    exact ⟨by simp [zz_cat], by simp⟩
  · intro D DA h as post hT p e s m args below meth c Q C hr hlk hnm hQ
    obtain ⟨a, sg, rfl, hok, hp⟩ := hT
    have lp2 : ∀ n i, n + i = or_s h a → (∀ j, j < i → zz_aR h (or_n h a) j ≠ sg) → zz_Z p l e { frames := 1, cells := 0, slots := 0, locals := 12 } s m args below meth c Q D DA (zz_A h s.heap.size) h 3 2 [some (zz_r 5 (some a)), some (zz_r 2 sg), some (zz_i (nI i))] [] h 0 0 := by
      intro n
      induction n with
      | zero =>
        intro i hni hall
        have hi : i = or_s h a := by omega
        subst hi
        have hb := hok.1.2.2.2.2.2.1
        refine zz_iload_n (q := 3) (f := 2) (i := 2) C (by decide +kernel) rfl rfl rfl ?_
        refine zz_aload_n (q := 4) (f := 0) (i := 0) C (by decide +kernel) rfl rfl rfl ?_
        refine zz_getI (q := 7) C gf_O_35 (by decide +kernel) rfl rfl hok.1.2.2.2.2.2.2 ?_
        refine zz_icmp_ge (off := 21) (tgt := 28) (q := 10) C (by decide +kernel) (by decide) rfl (fun c7 => ?_) (fun c7 => absurd (nI_le (Nat.le_refl _) (by omega)) c7)
        refine zz_aload_n (q := 29) (f := 0) (i := 0) C (by decide +kernel) rfl rfl rfl ?_
        refine zz_getI (q := 32) C gf_O_35 (by decide +kernel) rfl rfl hok.1.2.2.2.2.2.2 ?_
        exact zz_iret C hr hlk (by decide +kernel) hQ (by decide) (by decide) (hp _ (Nat.le_refl _) hall (fun z => absurd z (by omega)))
      | succ n ih =>
        intro i hni hall
        have hb := hok.1.2.2.2.2.2.1
        have hi : i < or_s h a := by omega
        refine zz_iload_n (q := 3) (f := 2) (i := 2) C (by decide +kernel) rfl rfl rfl ?_
        refine zz_aload_n (q := 4) (f := 0) (i := 0) C (by decide +kernel) rfl rfl rfl ?_
        refine zz_getI (q := 7) C gf_O_35 (by decide +kernel) rfl (by first | rfl | assumption) hok.1.2.2.2.2.2.2 ?_
        refine zz_icmp_ge (off := 21) (tgt := 28) (q := 10) C (by decide +kernel) (by decide) rfl (fun c7 => ?_) (fun c7 => ?_)
        · refine zz_aload_n (q := 29) (f := 0) (i := 0) C (by decide +kernel) rfl rfl rfl ?_
          refine zz_getI (q := 32) C gf_O_35 (by decide +kernel) rfl (by first | rfl | assumption) rfl ?_
          refine zz_iret C hr hlk (by decide +kernel) hQ (by decide) (by decide) ?_
          exact absurd c7 (nI_ge hi (by omega))
        · refine zz_aload_n (q := 11) (f := 0) (i := 0) C (by decide +kernel) rfl rfl rfl ?_
          refine zz_getR (q := 14) C gf_O_17 (by decide +kernel) rfl (by first | rfl | assumption) hok.1.2.1 ?_
          refine zz_iload_n (q := 15) (f := 2) (i := 2) C (by decide +kernel) rfl rfl rfl ?_
          refine zz_aaload (q := 16) C 4 rfl (by decide) (by decide +kernel) rfl rfl hok.1.2.2.2.1 rfl (by have := hok.1.2.2.2.2.2.1; omega) (by decide) rfl ?_
          refine zz_aload_n (q := 17) (f := 1) (i := 1) C (by decide +kernel) rfl rfl rfl ?_
          refine zz_acmp_ne (off := 5) (tgt := 22) (q := 20) C (by decide +kernel) (by decide) rfl (fun c17 => ?_) (fun c17 => ?_)
          · refine zz_iinc (q := 25) (i := 2) (n := 1) C (by decide +kernel) rfl rfl (nI_succ _).symm (by decide) rfl ?_
            refine zz_goto (off := -23) (tgt := 2) C (by decide +kernel) (by decide) ?_
            -- AT 2
            refine ih (i + 1) (by omega) (fun j hj => ?_)
            rcases Nat.lt_succ_iff_lt_or_eq.mp hj with hj | rfl
            · exact hall j hj
            · exact c17
          · refine zz_iload_n (q := 21) (f := 2) (i := 2) C (by decide +kernel) rfl rfl rfl ?_
            refine zz_iret C hr hlk (by decide +kernel) hQ (by decide) (by decide) ?_
            exact hp i (by omega) hall (fun _ => c17)
    refine zz_iconst (q := 1) (n := 0) (x := 0) C (by decide +kernel) rfl (by decide +kernel) ?_
    refine zz_istore_n (q := 2) (f := 2) (i := 2) C (by decide +kernel) rfl rfl (by decide) rfl ?_
    -- AT 2
    exact lp2 (or_s h a) 0 rfl (fun j hj => absurd hj (by omega))

def T_O_withNumber : zz_Tr := fun as h post => ∃ a num, as = [zz_r 5 (some a), zz_i num] ∧ or_okN h a ∧ ∀ r, or_first (or_s h a) 0 (fun i => zz_fI h 2 0 (or_N h a i) = num) (or_N h a) r → post (some (zz_r 2 r)) h
set_option maxRecDepth 100000 in
set_option maxHeartbeats 4000000 in
theorem m_O_withNumber (l : Launch) : zz_Met l y_O_withNumber w_O_withNumber { frames := 1, cells := 0, slots := 0, locals := 12 } T_O_withNumber := by
  refine zz_ofZ (by decide) (fun as h post hT => ?_) ?_
  · obtain ⟨a, num, rfl, hok, hp⟩ := hT
    exact ⟨by simp [zz_cat], by simp⟩
  · intro D DA h as post hT p e s m args below meth c Q C hr hlk hnm hQ
    obtain ⟨a, num, rfl, hok, hp⟩ := hT
    have lp2 : ∀ n i, n + i = or_s h a → (∀ j, 0 ≤ j → j < i → ¬ zz_fI h 2 0 (or_N h a j) = num) → zz_Z p l e { frames := 1, cells := 0, slots := 0, locals := 12 } s m args below meth c Q D DA (zz_A h s.heap.size) h 3 2 [some (zz_r 5 (some a)), some (zz_i num), some (zz_i (nI i))] [] h 0 0 := by
      intro n
      induction n with
      | zero =>
        intro i hni hall
        have hi : i = or_s h a := by omega
        subst hi
        have hb := hok.1.2.2.2.2.2.1
        refine zz_iload_n (q := 3) (f := 2) (i := 2) C (by decide +kernel) rfl rfl rfl ?_
        refine zz_aload_n (q := 4) (f := 0) (i := 0) C (by decide +kernel) rfl rfl rfl ?_
        refine zz_getI (q := 7) C gf_O_35 (by decide +kernel) rfl rfl hok.1.2.2.2.2.2.2 ?_
        refine zz_icmp_ge (off := 29) (tgt := 36) (q := 10) C (by decide +kernel) (by decide) rfl (fun c7 => ?_) (fun c7 => absurd (nI_le (Nat.le_refl _) (by omega)) c7)
        refine zz_null (q := 37) C 2 (by decide +kernel) rfl ?_
        exact zz_aret C hr (Or.inl ⟨_, rfl⟩) hlk (by decide +kernel) hQ (by decide) (by decide) (hp _ (Or.inl ⟨rfl, hall⟩))
      | succ n ih =>
        intro i hni hall
        have hb := hok.1.2.2.2.2.2.1
        have hi : i < or_s h a := by omega
        refine zz_iload_n (q := 3) (f := 2) (i := 2) C (by decide +kernel) rfl rfl rfl ?_
        refine zz_aload_n (q := 4) (f := 0) (i := 0) C (by decide +kernel) rfl rfl rfl ?_
        refine zz_getI (q := 7) C gf_O_35 (by decide +kernel) rfl (by first | rfl | assumption) hok.1.2.2.2.2.2.2 ?_
        refine zz_icmp_ge (off := 29) (tgt := 36) (q := 10) C (by decide +kernel) (by decide) rfl (fun c7 => ?_) (fun c7 => ?_)
        · refine zz_null (q := 37) C 2 (by decide +kernel) rfl ?_
          refine zz_aret C hr (Or.inl ⟨_, rfl⟩) hlk (by decide +kernel) hQ (by decide) (by decide) ?_
          exact absurd c7 (nI_ge hi (by omega))
        · refine zz_aload_n (q := 11) (f := 0) (i := 0) C (by decide +kernel) rfl rfl rfl ?_
          refine zz_getR (q := 14) C gf_O_17 (by decide +kernel) rfl (by first | rfl | assumption) hok.1.2.1 ?_
          refine zz_iload_n (q := 15) (f := 2) (i := 2) C (by decide +kernel) rfl rfl rfl ?_
          refine zz_aaload (q := 16) C 4 rfl (by decide) (by decide +kernel) rfl rfl hok.1.2.2.2.1 rfl (by have := hok.1.2.2.2.2.2.1; omega) (by decide) (hok.2 i hi) ?_
          refine zz_getI (q := 19) C gf_O_38 (by decide +kernel) rfl (by first | rfl | assumption) rfl ?_
          refine zz_iload_n (q := 20) (f := 1) (i := 1) C (by decide +kernel) rfl rfl rfl ?_
          refine zz_icmp_ne (off := 10) (tgt := 30) (q := 23) C (by decide +kernel) (by decide) rfl (fun c20 => ?_) (fun c20 => ?_)
          · refine zz_iinc (q := 33) (i := 2) (n := 1) C (by decide +kernel) rfl rfl (nI_succ _).symm (by decide) rfl ?_
            refine zz_goto (off := -31) (tgt := 2) C (by decide +kernel) (by decide) ?_
            -- AT 2
            exact ih (i + 1) (by omega) (or_next hall c20)
          · refine zz_aload_n (q := 24) (f := 0) (i := 0) C (by decide +kernel) rfl rfl rfl ?_
            refine zz_getR (q := 27) C gf_O_17 (by decide +kernel) rfl (by first | rfl | assumption) hok.1.2.1 ?_
            refine zz_iload_n (q := 28) (f := 2) (i := 2) C (by decide +kernel) rfl rfl rfl ?_
            refine zz_aaload (q := 29) C 4 rfl (by decide) (by decide +kernel) rfl rfl hok.1.2.2.2.1 rfl (by have := hok.1.2.2.2.2.2.1; omega) (by decide) (hok.2 i hi) ?_
            refine zz_aret C hr (Or.inl ⟨_, rfl⟩) hlk (by decide +kernel) hQ (by decide) (by decide) ?_
            exact hp _ (Or.inr ⟨i, Nat.zero_le _, hi, c20, hall, rfl⟩)
    refine zz_iconst (q := 1) (n := 0) (x := 0) C (by decide +kernel) rfl (by decide +kernel) ?_
    refine zz_istore_n (q := 2) (f := 2) (i := 2) C (by decide +kernel) rfl rfl (by decide) rfl ?_
    -- AT 2
    exact lp2 (or_s h a) 0 rfl (fun j _ hj => absurd hj (by omega))

def or_pm (h : zz_H) (a q : Nat) (top : Option Nat) (i : Nat) : Prop := (∀ t, top = some t → or_N h a i ≠ t ∧ sg_at h (sg_lv h t) (or_N h a i) = some t) ∧ pa_met h q (or_N h a i)
def T_O_firstThatMeets : zz_Tr := fun as h post => ∃ a q f top, as = [zz_r 5 (some a), zz_r 4 (some q), zz_i (nI f), zz_r 2 top] ∧ f ≤ 61 ∧ or_okN h a ∧ pa_ok h q ∧ sg_wf h ∧ ∀ r, or_first (or_s h a) f (or_pm h a q top) (or_N h a) r → post (some (zz_r 2 r)) h
set_option maxRecDepth 100000 in
set_option maxHeartbeats 4000000 in
theorem m_O_firstThatMeets (l : Launch) : zz_Met l y_O_firstThatMeets w_O_firstThatMeets { frames := 5, cells := 0, slots := 0, locals := 102 } T_O_firstThatMeets := by
  refine zz_ofZ (by decide) (fun as h post hT => ?_) ?_
  · obtain ⟨a, q, f, top, rfl, hf, hok, hpa, hwf, hp⟩ := hT
    exact ⟨by simp [zz_cat], by simp⟩
  · intro D DA h as post hT p e s m args below meth c Q C hr hlk hnm hQ
    obtain ⟨a, q, f, top, rfl, hf, hok, hpa, hwf, hp⟩ := hT
    have lp3 : ∀ n i, or_s h a - i ≤ n → f ≤ i → i ≤ 61 → (∀ j, f ≤ j → j < i → ¬ or_pm h a q top j) → zz_Z p l e { frames := 5, cells := 0, slots := 0, locals := 102 } s m args below meth c Q D DA (zz_A h s.heap.size) h 5 3 [some (zz_r 5 (some a)), some (zz_r 4 (some q)), some (zz_i (nI f)), some (zz_r 2 top), some (zz_i (nI i))] [] h 0 0 := by
      intro n
      induction n with
      | zero =>
        intro i hni hfi hi61 hall
        have hge : or_s h a ≤ i := by omega
        refine zz_iload (q := 5) (i := 4) C (by decide +kernel) rfl rfl ?_
        refine zz_aload_n (q := 6) (f := 0) (i := 0) C (by decide +kernel) rfl rfl rfl ?_
        refine zz_getI (q := 9) C gf_O_35 (by decide +kernel) rfl rfl hok.1.2.2.2.2.2.2 ?_
        refine zz_icmp_ge (off := 49) (tgt := 58) (q := 12) C (by decide +kernel) (by decide) rfl (fun c9 => ?_) (fun c9 => absurd (nI_le hge (by omega)) c9)
        refine zz_null (q := 59) C 2 (by decide +kernel) rfl ?_
        exact zz_aret C hr (Or.inl ⟨_, rfl⟩) hlk (by decide +kernel) hQ (by decide) (by decide) (hp _ (Or.inl ⟨rfl, fun j h1 h2 => hall j h1 (by omega)⟩))
      | succ n ih =>
        intro i hni hfi hi61 hall
        have hb := hok.1.2.2.2.2.2.1
        refine zz_iload (q := 5) (i := 4) C (by decide +kernel) rfl rfl ?_
        refine zz_aload_n (q := 6) (f := 0) (i := 0) C (by decide +kernel) rfl rfl rfl ?_
        refine zz_getI (q := 9) C gf_O_35 (by decide +kernel) rfl (by first | rfl | assumption) hok.1.2.2.2.2.2.2 ?_
        refine zz_icmp_ge (off := 49) (tgt := 58) (q := 12) C (by decide +kernel) (by decide) rfl (fun c9 => ?_) (fun c9 => ?_)
        · refine zz_null (q := 59) C 2 (by decide +kernel) rfl ?_
          refine zz_aret C hr (Or.inl ⟨_, rfl⟩) hlk (by decide +kernel) hQ (by decide) (by decide) ?_
          exact hp _ (Or.inl ⟨rfl, fun j h1 h2 => hall j h1 (by have := (nI_leI (a := or_s h a) (b := i) (by omega) (by omega)).mp c9; omega)⟩)
        · have hi : i < or_s h a := Nat.lt_of_not_le (fun z => c9 (nI_le z (by omega)))
          refine zz_aload_n (q := 13) (f := 3) (i := 3) C (by decide +kernel) rfl rfl rfl ?_
          refine zz_ifnull (off := 17) (tgt := 30) (q := 16) C (by decide +kernel) (by decide) rfl (fun c13 => ?_) (fun a13 c13 => ?_)
          · refine zz_aload_n (q := 31) (f := 1) (i := 1) C (by decide +kernel) rfl rfl rfl ?_
            refine zz_aload_n (q := 32) (f := 0) (i := 0) C (by decide +kernel) rfl rfl rfl ?_
            refine zz_getR (q := 35) C gf_O_17 (by decide +kernel) rfl (by first | rfl | assumption) hok.1.2.1 ?_
            refine zz_iload (q := 37) (i := 4) C (by decide +kernel) rfl rfl ?_
            refine zz_aaload (q := 38) C 4 rfl (by decide) (by decide +kernel) rfl rfl hok.1.2.2.2.1 rfl (by have := hok.1.2.2.2.2.2.1; omega) (by decide) (hok.2 i hi) ?_
            refine zz_callV (q := 41) C (m_P_isMetBy l) cv_O_45 (by decide +kernel) rfl rfl rfl (by first | rfl | assumption) (by decide) (by decide) (Nat.le_of_ble_eq_true rfl) ⟨_, _, rfl, hpa, hwf, ?_⟩
            refine zz_if_eq (off := 11) (tgt := 52) (q := 44) C (by decide +kernel) (by decide) rfl (fun c41 => ?_) (fun c41 => ?_)
            · refine zz_iinc (q := 55) (i := 4) (n := 1) C (by decide +kernel) rfl rfl (nI_succ _).symm (by decide) rfl ?_
              refine zz_goto (off := -52) (tgt := 3) C (by decide +kernel) (by decide) ?_
              -- AT 3
              refine ih (i + 1) (by omega) (by omega) (by omega) (or_next hall (fun z => ?_))
              first | exact zz_b_f c41 z.2 | exact zz_b_f c27 (z.1 a13 c13)
            · refine zz_aload_n (q := 45) (f := 0) (i := 0) C (by decide +kernel) rfl rfl rfl ?_
              refine zz_getR (q := 48) C gf_O_17 (by decide +kernel) rfl (by first | rfl | assumption) hok.1.2.1 ?_
              refine zz_iload (q := 50) (i := 4) C (by decide +kernel) rfl rfl ?_
              refine zz_aaload (q := 51) C 4 rfl (by decide) (by decide +kernel) rfl rfl hok.1.2.2.2.1 rfl (by have := hok.1.2.2.2.2.2.1; omega) (by decide) (hok.2 i hi) ?_
              refine zz_aret C hr (Or.inl ⟨_, rfl⟩) hlk (by decide +kernel) hQ (by decide) (by decide) ?_
              first | exact hp _ (Or.inr ⟨i, hfi, hi, ⟨fun t ht => (by rw [c13] at ht; cases ht; exact zz_b_t c27), zz_b_t c41⟩, hall, rfl⟩) | exact hp _ (Or.inr ⟨i, hfi, hi, ⟨fun t ht => (by rw [c13] at ht; cases ht), zz_b_t c41⟩, hall, rfl⟩)
          · refine zz_aload_n (q := 17) (f := 0) (i := 0) C (by decide +kernel) rfl rfl rfl ?_
            refine zz_getR (q := 20) C gf_O_17 (by decide +kernel) rfl (by first | rfl | assumption) hok.1.2.1 ?_
            refine zz_iload (q := 22) (i := 4) C (by decide +kernel) rfl rfl ?_
            refine zz_aaload (q := 23) C 4 rfl (by decide) (by decide +kernel) rfl rfl hok.1.2.2.2.1 rfl (by have := hok.1.2.2.2.2.2.1; omega) (by decide) (hok.2 i hi) ?_
            refine zz_aload_n (q := 24) (f := 3) (i := 3) C (by decide +kernel) rfl rfl rfl ?_
            refine zz_callV (q := 27) C (m_S_isBelow l) cv_O_41 (by decide +kernel) rfl rfl rfl (by first | rfl | assumption) (by decide) (by decide) (Nat.le_of_ble_eq_true rfl) ⟨_, _, by rw [c13], hwf, ?_⟩
            refine zz_if_eq (off := 25) (tgt := 52) (q := 30) C (by decide +kernel) (by decide) rfl (fun c27 => ?_) (fun c27 => ?_)
            · refine zz_iinc (q := 55) (i := 4) (n := 1) C (by decide +kernel) rfl rfl (nI_succ _).symm (by decide) rfl ?_
              refine zz_goto (off := -52) (tgt := 3) C (by decide +kernel) (by decide) ?_
              -- AT 3
              refine ih (i + 1) (by omega) (by omega) (by omega) (or_next hall (fun z => ?_))
              first | exact zz_b_f c41 z.2 | exact zz_b_f c27 (z.1 a13 c13)
            · refine zz_aload_n (q := 31) (f := 1) (i := 1) C (by decide +kernel) rfl rfl rfl ?_
              refine zz_aload_n (q := 32) (f := 0) (i := 0) C (by decide +kernel) rfl rfl rfl ?_
              refine zz_getR (q := 35) C gf_O_17 (by decide +kernel) rfl (by first | rfl | assumption) hok.1.2.1 ?_
              refine zz_iload (q := 37) (i := 4) C (by decide +kernel) rfl rfl ?_
              refine zz_aaload (q := 38) C 4 rfl (by decide) (by decide +kernel) rfl rfl hok.1.2.2.2.1 rfl (by have := hok.1.2.2.2.2.2.1; omega) (by decide) (hok.2 i hi) ?_
              refine zz_callV (q := 41) C (m_P_isMetBy l) cv_O_45 (by decide +kernel) rfl rfl rfl (by first | rfl | assumption) (by decide) (by decide) (Nat.le_of_ble_eq_true rfl) ⟨_, _, rfl, hpa, hwf, ?_⟩
              refine zz_if_eq (off := 11) (tgt := 52) (q := 44) C (by decide +kernel) (by decide) rfl (fun c41 => ?_) (fun c41 => ?_)
              · refine zz_iinc (q := 55) (i := 4) (n := 1) C (by decide +kernel) rfl rfl (nI_succ _).symm (by decide) rfl ?_
                refine zz_goto (off := -52) (tgt := 3) C (by decide +kernel) (by decide) ?_
                -- AT 3
                refine ih (i + 1) (by omega) (by omega) (by omega) (or_next hall (fun z => ?_))
                first | exact zz_b_f c41 z.2 | exact zz_b_f c27 (z.1 a13 c13)
              · refine zz_aload_n (q := 45) (f := 0) (i := 0) C (by decide +kernel) rfl rfl rfl ?_
                refine zz_getR (q := 48) C gf_O_17 (by decide +kernel) rfl (by first | rfl | assumption) hok.1.2.1 ?_
                refine zz_iload (q := 50) (i := 4) C (by decide +kernel) rfl rfl ?_
                refine zz_aaload (q := 51) C 4 rfl (by decide) (by decide +kernel) rfl rfl hok.1.2.2.2.1 rfl (by have := hok.1.2.2.2.2.2.1; omega) (by decide) (hok.2 i hi) ?_
                refine zz_aret C hr (Or.inl ⟨_, rfl⟩) hlk (by decide +kernel) hQ (by decide) (by decide) ?_
                first | exact hp _ (Or.inr ⟨i, hfi, hi, ⟨fun t ht => (by rw [c13] at ht; cases ht; exact zz_b_t c27), zz_b_t c41⟩, hall, rfl⟩) | exact hp _ (Or.inr ⟨i, hfi, hi, ⟨fun t ht => (by rw [c13] at ht; cases ht), zz_b_t c41⟩, hall, rfl⟩)
    refine zz_iload_n (q := 1) (f := 2) (i := 2) C (by decide +kernel) rfl rfl rfl ?_
    refine zz_istore (q := 3) (i := 4) C (by decide +kernel) rfl (by decide) rfl ?_
    -- AT 3
    exact lp3 (or_s h a - f) f (Nat.le_refl _) (Nat.le_refl _) hf (fun j h1 h2 => absurd h1 (by omega))
end
section
/-! Order: parents, siblings; Position -/
def or_fp (h : zz_H) (a k q lv i : Nat) : Prop := zz_fR h 2 1 (or_N h a i) = some k ∧ pa_dn h q lv (or_N h a i)
def or_sb (h : zz_H) (a : Nat) (k par : Option Nat) (b i : Nat) : Prop := zz_fR h 2 1 (or_N h a i) = k ∧ zz_fR h 2 2 (or_N h a i) = par ∧ zz_fI h 1 4 (sg_k h (or_N h a i)) ≠ -1 ∧ zz_aI h (sg_w h (or_N h a i)) (kd_sq h (sg_k h (or_N h a i))) = zz_aI h b (kd_sq h (sg_k h (or_N h a i)))
theorem or_tag {h : zz_H} (hty : zz_tyH h) {a i : Nat} (hok : or_okN h a) (hi : i < or_s h a) : ∃ n, zz_tg h (or_N h a i) = some (2, n) := hty.2 (or_n h a) 102 60 i hok.1.2.2.2.1 (by decide) _ (hok.2 i hi)
theorem or_tagB {h : zz_H} (hty : zz_tyH h) {a i : Nat} (hok : or_okB h a) (hi : i < or_s h a) : ∃ n, zz_tg h (or_B h a i) = some (2, n) := hty.2 (or_b h a) 102 60 i hok.1.2.2.1 (by decide) _ (hok.2 i hi)
def T_O_firstParent : zz_Tr := fun as h post => ∃ a k q lv, as = [zz_r 5 (some a), zz_r 1 (some k), zz_r 4 (some q)] ∧ lv ≤ 4 ∧ zz_fI h 1 2 k = nI lv ∧ or_okN h a ∧ pa_ok h q ∧ sg_wf h ∧ ∀ r, or_first (or_s h a) 0 (or_fp h a k q lv) (or_N h a) r → post (some (zz_r 2 r)) h
set_option maxRecDepth 100000 in
set_option maxHeartbeats 4000000 in
theorem m_O_firstParent (l : Launch) : zz_Met l y_O_firstParent w_O_firstParent { frames := 4, cells := 0, slots := 0, locals := 80 } T_O_firstParent := by
  refine zz_ofZ (by decide) (fun as h post hT => ?_) ?_
  · obtain ⟨a, k, q, lv, rfl, hl4, hlv, hok, hpa, hwf, hp⟩ := hT
    exact ⟨by simp [zz_cat], by simp⟩
  · intro D DA h as post hT p e s m args below meth c Q C hr hlk hnm hQ
    obtain ⟨a, k, q, lv, rfl, hl4, hlv, hok, hpa, hwf, hp⟩ := hT
    have lp2 : ∀ n i, n + i = or_s h a → (∀ j, 0 ≤ j → j < i → ¬ or_fp h a k q lv j) → zz_Z p l e { frames := 4, cells := 0, slots := 0, locals := 80 } s m args below meth c Q D DA (zz_A h s.heap.size) h 4 2 [some (zz_r 5 (some a)), some (zz_r 1 (some k)), some (zz_r 4 (some q)), some (zz_i (nI i))] [] h 0 0 := by
      intro n
      induction n with
      | zero =>
        intro i hni hall
        have hi : i = or_s h a := by omega
        subst hi
        have hb := hok.1.2.2.2.2.2.1
        refine zz_iload_n (q := 3) (f := 3) (i := 3) C (by decide +kernel) rfl rfl rfl ?_
        refine zz_aload_n (q := 4) (f := 0) (i := 0) C (by decide +kernel) rfl rfl rfl ?_
        refine zz_getI (q := 7) C gf_O_35 (by decide +kernel) rfl rfl hok.1.2.2.2.2.2.2 ?_
        refine zz_icmp_ge (off := 46) (tgt := 53) (q := 10) C (by decide +kernel) (by decide) rfl (fun c7 => ?_) (fun c7 => absurd (nI_le (Nat.le_refl _) (by omega)) c7)
        refine zz_null (q := 54) C 2 (by decide +kernel) rfl ?_
        exact zz_aret C hr (Or.inl ⟨_, rfl⟩) hlk (by decide +kernel) hQ (by decide) (by decide) (hp _ (Or.inl ⟨rfl, hall⟩))
      | succ n ih =>
        intro i hni hall
        have hb := hok.1.2.2.2.2.2.1
        have hi : i < or_s h a := by omega
        refine zz_iload_n (q := 3) (f := 3) (i := 3) C (by decide +kernel) rfl rfl rfl ?_
        refine zz_aload_n (q := 4) (f := 0) (i := 0) C (by decide +kernel) rfl rfl rfl ?_
        refine zz_getI (q := 7) C gf_O_35 (by decide +kernel) rfl (by first | rfl | assumption) hok.1.2.2.2.2.2.2 ?_
        refine zz_icmp_ge (off := 46) (tgt := 53) (q := 10) C (by decide +kernel) (by decide) rfl (fun c7 => ?_) (fun c7 => ?_)
        · refine zz_null (q := 54) C 2 (by decide +kernel) rfl ?_
          refine zz_aret C hr (Or.inl ⟨_, rfl⟩) hlk (by decide +kernel) hQ (by decide) (by decide) ?_
          exact absurd c7 (nI_ge hi (by omega))
        · refine zz_aload_n (q := 11) (f := 0) (i := 0) C (by decide +kernel) rfl rfl rfl ?_
          refine zz_getR (q := 14) C gf_O_17 (by decide +kernel) rfl (by first | rfl | assumption) hok.1.2.1 ?_
          refine zz_iload_n (q := 15) (f := 3) (i := 3) C (by decide +kernel) rfl rfl rfl ?_
          refine zz_aaload (q := 16) C 4 rfl (by decide) (by decide +kernel) rfl rfl hok.1.2.2.2.1 rfl (by have := hok.1.2.2.2.2.2.1; omega) (by decide) (hok.2 i hi) ?_
          refine zz_getR (q := 19) C gf_O_50 (by decide +kernel) rfl (by first | rfl | assumption) rfl ?_
          refine zz_aload_n (q := 20) (f := 1) (i := 1) C (by decide +kernel) rfl rfl rfl ?_
          refine zz_acmp_ne (off := 27) (tgt := 47) (q := 23) C (by decide +kernel) (by decide) rfl (fun c20 => ?_) (fun c20 => ?_)
          · refine zz_iinc (q := 50) (i := 3) (n := 1) C (by decide +kernel) rfl rfl (nI_succ _).symm (by decide) rfl ?_
            refine zz_goto (off := -48) (tgt := 2) C (by decide +kernel) (by decide) ?_
            -- AT 2
            refine ih (i + 1) (by omega) (or_next hall (fun z => ?_))
            first | exact zz_b_f c37 z.2 | exact c20 z.1
          · refine zz_aload_n (q := 24) (f := 2) (i := 2) C (by decide +kernel) rfl rfl rfl ?_
            refine zz_aload_n (q := 25) (f := 1) (i := 1) C (by decide +kernel) rfl rfl rfl ?_
            refine zz_getI (q := 28) C gf_O_53 (by decide +kernel) rfl (by first | rfl | assumption) hlv ?_
            refine zz_aload_n (q := 29) (f := 0) (i := 0) C (by decide +kernel) rfl rfl rfl ?_
            refine zz_getR (q := 32) C gf_O_17 (by decide +kernel) rfl (by first | rfl | assumption) hok.1.2.1 ?_
            refine zz_iload_n (q := 33) (f := 3) (i := 3) C (by decide +kernel) rfl rfl rfl ?_
            refine zz_aaload (q := 34) C 4 rfl (by decide) (by decide +kernel) rfl rfl hok.1.2.2.2.1 rfl (by have := hok.1.2.2.2.2.2.1; omega) (by decide) (hok.2 i hi) ?_
            refine zz_callV (q := 37) C (m_P_isMetDownTo l) cv_O_58 (by decide +kernel) rfl rfl rfl (by first | rfl | assumption) (by decide) (by decide) (Nat.le_of_ble_eq_true rfl) ⟨_, _, _, rfl, hl4, hpa, hwf, ?_⟩
            refine zz_if_eq (off := 10) (tgt := 47) (q := 40) C (by decide +kernel) (by decide) rfl (fun c37 => ?_) (fun c37 => ?_)
            · refine zz_iinc (q := 50) (i := 3) (n := 1) C (by decide +kernel) rfl rfl (nI_succ _).symm (by decide) rfl ?_
              refine zz_goto (off := -48) (tgt := 2) C (by decide +kernel) (by decide) ?_
              -- AT 2
              refine ih (i + 1) (by omega) (or_next hall (fun z => ?_))
              first | exact zz_b_f c37 z.2 | exact c20 z.1
            · refine zz_aload_n (q := 41) (f := 0) (i := 0) C (by decide +kernel) rfl rfl rfl ?_
              refine zz_getR (q := 44) C gf_O_17 (by decide +kernel) rfl (by first | rfl | assumption) hok.1.2.1 ?_
              refine zz_iload_n (q := 45) (f := 3) (i := 3) C (by decide +kernel) rfl rfl rfl ?_
              refine zz_aaload (q := 46) C 4 rfl (by decide) (by decide +kernel) rfl rfl hok.1.2.2.2.1 rfl (by have := hok.1.2.2.2.2.2.1; omega) (by decide) (hok.2 i hi) ?_
              refine zz_aret C hr (Or.inl ⟨_, rfl⟩) hlk (by decide +kernel) hQ (by decide) (by decide) ?_
              exact hp _ (Or.inr ⟨i, Nat.zero_le _, hi, ⟨c20, zz_b_t c37⟩, hall, rfl⟩)
    refine zz_iconst (q := 1) (n := 0) (x := 0) C (by decide +kernel) rfl (by decide +kernel) ?_
    refine zz_istore_n (q := 2) (f := 3) (i := 3) C (by decide +kernel) rfl rfl (by decide) rfl ?_
    -- AT 2
    exact lp2 (or_s h a) 0 rfl (fun j _ hj => absurd hj (by omega))

def T_O_hasSibling : zz_Tr := fun as h post => ∃ a k par b, as = [zz_r 5 (some a), zz_r 1 k, zz_r 2 par, zz_r 90 (some b)] ∧ zz_tg h b = some (90, 4) ∧ or_okN h a ∧ sg_wf h ∧ kd_wf h ∧ post (some (zz_i (zz_b (∃ i, i < or_s h a ∧ or_sb h a k par b i)))) h
set_option maxRecDepth 100000 in
set_option maxHeartbeats 4000000 in
theorem m_O_hasSibling (l : Launch) : zz_Met l y_O_hasSibling w_O_hasSibling { frames := 3, cells := 0, slots := 0, locals := 53 } T_O_hasSibling := by
  refine zz_ofZ (by decide) (fun as h post hT => ?_) ?_
  · obtain ⟨a, k, par, b, rfl, htb, hok, hwf, hkw, hp⟩ := hT
    exact ⟨by simp [zz_cat], by simp⟩
  · intro D DA h as post hT p e s m args below meth c Q C hr hlk hnm hQ
    obtain ⟨a, k, par, b, rfl, htb, hok, hwf, hkw, hp⟩ := hT
    refine zz_know (fun hty _ hTL _ => ?_)
    have lp3 : ∀ n i, n + i = or_s h a → ∀ v9, (∀ j, 0 ≤ j → j < i → ¬ or_sb h a k par b j) → zz_Z p l e { frames := 3, cells := 0, slots := 0, locals := 53 } s m args below meth c Q D DA (zz_A h s.heap.size) h 6 3 [some (zz_r 5 (some a)), some (zz_r 1 k), some (zz_r 2 par), some (zz_r 90 (some b)), some (zz_i (nI i)), v9] [] h 0 0 := by
      intro n
      induction n with
      | zero =>
        intro i hni v9 hall
        have hi : i = or_s h a := by omega
        subst hi
        have hb := hok.1.2.2.2.2.2.1
        refine zz_iload (q := 5) (i := 4) C (by decide +kernel) rfl rfl ?_
        refine zz_aload_n (q := 6) (f := 0) (i := 0) C (by decide +kernel) rfl rfl rfl ?_
        refine zz_getI (q := 9) C gf_O_35 (by decide +kernel) rfl rfl hok.1.2.2.2.2.2.2 ?_
        refine zz_icmp_ge (off := 47) (tgt := 56) (q := 12) C (by decide +kernel) (by decide) rfl (fun c9 => ?_) (fun c9 => absurd (nI_le (Nat.le_refl _) (by omega)) c9)
        refine zz_iconst (q := 57) (n := 0) (x := 0) C (by decide +kernel) rfl (by decide +kernel) ?_
        exact zz_zret C hr hlk (by decide +kernel) (by decide) hQ (by decide) (by decide) (zz_b0 (P := fun x => post (some (zz_i x)) h) hp (fun ⟨j, h1, h2⟩ => hall j (Nat.zero_le _) h1 h2))
      | succ n ih =>
        intro i hni v9 hall
        have hb := hok.1.2.2.2.2.2.1
        have hi : i < or_s h a := by omega
        obtain ⟨ns, hts⟩ := or_tag hty hok hi
        have hos := hwf _ ns hts
        obtain ⟨nk, htk⟩ := hty.1 _ 2 ns 1 1 hts (by decide) rfl _ hos.1
        have hks := hkw _ nk htk
        refine zz_iload (q := 5) (i := 4) C (by decide +kernel) rfl rfl ?_
        refine zz_aload_n (q := 6) (f := 0) (i := 0) C (by decide +kernel) rfl rfl rfl ?_
        refine zz_getI (q := 9) C gf_O_35 (by decide +kernel) rfl (by first | rfl | assumption) hok.1.2.2.2.2.2.2 ?_
        refine zz_icmp_ge (off := 47) (tgt := 56) (q := 12) C (by decide +kernel) (by decide) rfl (fun c9 => ?_) (fun c9 => ?_)
        · refine zz_iconst (q := 57) (n := 0) (x := 0) C (by decide +kernel) rfl (by decide +kernel) ?_
          refine zz_zret C hr hlk (by decide +kernel) (by decide) hQ (by decide) (by decide) ?_
          exact absurd c9 (nI_ge hi (by omega))
        · refine zz_aload_n (q := 13) (f := 0) (i := 0) C (by decide +kernel) rfl rfl rfl ?_
          refine zz_getR (q := 16) C gf_O_17 (by decide +kernel) rfl (by first | rfl | assumption) hok.1.2.1 ?_
          refine zz_iload (q := 18) (i := 4) C (by decide +kernel) rfl rfl ?_
          refine zz_aaload (q := 19) C 4 rfl (by decide) (by decide +kernel) rfl rfl hok.1.2.2.2.1 rfl (by have := hok.1.2.2.2.2.2.1; omega) (by decide) (hok.2 i hi) ?_
          refine zz_astore (q := 21) (i := 5) C (by decide +kernel) rfl (by decide) rfl ?_
          refine zz_aload (q := 23) (i := 5) C (by decide +kernel) rfl rfl ?_
          refine zz_getR (q := 26) C gf_O_50 (by decide +kernel) rfl (by first | rfl | assumption) rfl ?_
          refine zz_aload_n (q := 27) (f := 1) (i := 1) C (by decide +kernel) rfl rfl rfl ?_
          refine zz_acmp_ne (off := 23) (tgt := 50) (q := 30) C (by decide +kernel) (by decide) rfl (fun c27 => ?_) (fun c27 => ?_)
          · refine zz_iinc (q := 53) (i := 4) (n := 1) C (by decide +kernel) rfl rfl (nI_succ _).symm (by decide) rfl ?_
            refine zz_goto (off := -50) (tgt := 3) C (by decide +kernel) (by decide) ?_
            -- AT 3
            refine ih (i + 1) (by omega) _ (or_next hall (fun z => ?_))
            first | exact zz_b_f c45 z.2.2 | exact c36 z.2.1 | exact c27 z.1
          · refine zz_aload (q := 32) (i := 5) C (by decide +kernel) rfl rfl ?_
            refine zz_getR (q := 35) C gf_O_62 (by decide +kernel) rfl (by first | rfl | assumption) rfl ?_
            refine zz_aload_n (q := 36) (f := 2) (i := 2) C (by decide +kernel) rfl rfl rfl ?_
            refine zz_acmp_ne (off := 14) (tgt := 50) (q := 39) C (by decide +kernel) (by decide) rfl (fun c36 => ?_) (fun c36 => ?_)
            · refine zz_iinc (q := 53) (i := 4) (n := 1) C (by decide +kernel) rfl rfl (nI_succ _).symm (by decide) rfl ?_
              refine zz_goto (off := -50) (tgt := 3) C (by decide +kernel) (by decide) ?_
              -- AT 3
              refine ih (i + 1) (by omega) _ (or_next hall (fun z => ?_))
              first | exact zz_b_f c45 z.2.2 | exact c36 z.2.1 | exact c27 z.1
            · refine zz_aload (q := 41) (i := 5) C (by decide +kernel) rfl rfl ?_
              refine zz_aload_n (q := 42) (f := 3) (i := 3) C (by decide +kernel) rfl rfl rfl ?_
              refine zz_callV (q := 45) C (m_S_hasSequenceOf l) cv_O_66 (by decide +kernel) rfl rfl rfl (by first | rfl | assumption) (by decide) (by decide) (Nat.le_of_ble_eq_true rfl) ⟨_, _, rfl, hos, hks, htb, ?_⟩
              refine zz_if_eq (off := 5) (tgt := 50) (q := 48) C (by decide +kernel) (by decide) rfl (fun c45 => ?_) (fun c45 => ?_)
              · refine zz_iinc (q := 53) (i := 4) (n := 1) C (by decide +kernel) rfl rfl (nI_succ _).symm (by decide) rfl ?_
                refine zz_goto (off := -50) (tgt := 3) C (by decide +kernel) (by decide) ?_
                -- AT 3
                refine ih (i + 1) (by omega) _ (or_next hall (fun z => ?_))
                first | exact zz_b_f c45 z.2.2 | exact c36 z.2.1 | exact c27 z.1
              · refine zz_iconst (q := 49) (n := 1) (x := 1) C (by decide +kernel) rfl (by decide +kernel) ?_
                refine zz_zret C hr hlk (by decide +kernel) (by decide) hQ (by decide) (by decide) ?_
                exact zz_b1 (P := fun x => post (some (zz_i x)) h) hp ⟨i, hi, c27, c36, zz_b_t c45⟩
    refine zz_iconst (q := 1) (n := 0) (x := 0) C (by decide +kernel) rfl (by decide +kernel) ?_
    refine zz_istore (q := 3) (i := 4) C (by decide +kernel) rfl (by decide) rfl ?_
    -- AT 3
    exact lp3 (or_s h a) 0 rfl none (fun j _ hj => absurd hj (by omega))

def T_Q_standAt : zz_Tr := fun as h post => ∃ a sg, as = [zz_r 6 (some a), zz_r 2 sg] ∧ post none (zz_pI (zz_pI (zz_pR h 6 0 a sg) 6 1 a 1) 6 2 a 0)
set_option maxRecDepth 100000 in
set_option maxHeartbeats 4000000 in
theorem m_Q_standAt (l : Launch) : zz_Met l y_Q_standAt w_Q_standAt { frames := 1, cells := 0, slots := 0, locals := 12 } T_Q_standAt := by
  refine zz_ofZ (by decide) (fun as h post hT => ?_) ?_
  · obtain ⟨a, sg, rfl, hp⟩ := hT
    exact ⟨by simp [zz_cat], by simp⟩
  · intro D DA h as post hT p e s m args below meth c Q C hr hlk hnm hQ
    obtain ⟨a, sg, rfl, hp⟩ := hT
    refine zz_aload_n (q := 1) (f := 0) (i := 0) C (by decide +kernel) rfl rfl rfl ?_
    refine zz_aload_n (q := 2) (f := 1) (i := 1) C (by decide +kernel) rfl rfl rfl ?_
    refine zz_putR (q := 5) C gf_Q_7 (fun h => by cases h) (by decide +kernel) rfl (by first | rfl | assumption) ?_
    refine zz_aload_n (q := 6) (f := 0) (i := 0) C (by decide +kernel) rfl rfl rfl ?_
    refine zz_iconst (q := 7) (n := 1) (x := 1) C (by decide +kernel) rfl (by decide +kernel) ?_
    refine zz_putI (q := 10) C gf_Q_13 (fun h => by cases h) (fun _ => Or.inr rfl) (by decide +kernel) rfl (by first | rfl | assumption) ?_
    refine zz_aload_n (q := 11) (f := 0) (i := 0) C (by decide +kernel) rfl rfl rfl ?_
    refine zz_iconst (q := 12) (n := 0) (x := 0) C (by decide +kernel) rfl (by decide +kernel) ?_
    refine zz_putI (q := 15) C gf_Q_17 (fun h => by cases h) (fun _ => Or.inl rfl) (by decide +kernel) rfl (by first | rfl | assumption) ?_
    refine zz_vret C hr hlk (by decide +kernel) hQ (by decide) (by decide) ?_
    exact hp

def T_Q_standInFrontOfAll : zz_Tr := fun as h post => ∃ a, as = [zz_r 6 (some a)] ∧ post none (zz_pI (zz_pI (zz_pR h 6 0 a none) 6 1 a 0) 6 2 a 0)
set_option maxRecDepth 100000 in
set_option maxHeartbeats 4000000 in
theorem m_Q_standInFrontOfAll (l : Launch) : zz_Met l y_Q_standInFrontOfAll w_Q_standInFrontOfAll { frames := 1, cells := 0, slots := 0, locals := 12 } T_Q_standInFrontOfAll := by
  refine zz_ofZ (by decide) (fun as h post hT => ?_) ?_
  · obtain ⟨a, rfl, hp⟩ := hT
    exact ⟨by simp [zz_cat], by simp⟩
  · intro D DA h as post hT p e s m args below meth c Q C hr hlk hnm hQ
    obtain ⟨a, rfl, hp⟩ := hT
    refine zz_aload_n (q := 1) (f := 0) (i := 0) C (by decide +kernel) rfl rfl rfl ?_
    refine zz_null (q := 2) C 2 (by decide +kernel) rfl ?_
    refine zz_putR (q := 5) C gf_Q_7 (fun h => by cases h) (by decide +kernel) rfl (by first | rfl | assumption) ?_
    refine zz_aload_n (q := 6) (f := 0) (i := 0) C (by decide +kernel) rfl rfl rfl ?_
    refine zz_iconst (q := 7) (n := 0) (x := 0) C (by decide +kernel) rfl (by decide +kernel) ?_
    refine zz_putI (q := 10) C gf_Q_13 (fun h => by cases h) (fun _ => Or.inl rfl) (by decide +kernel) rfl (by first | rfl | assumption) ?_
    refine zz_aload_n (q := 11) (f := 0) (i := 0) C (by decide +kernel) rfl rfl rfl ?_
    refine zz_iconst (q := 12) (n := 0) (x := 0) C (by decide +kernel) rfl (by decide +kernel) ?_
    refine zz_putI (q := 15) C gf_Q_17 (fun h => by cases h) (fun _ => Or.inl rfl) (by decide +kernel) rfl (by first | rfl | assumption) ?_
    refine zz_vret C hr hlk (by decide +kernel) hQ (by decide) (by decide) ?_
    exact hp

def T_Q_standInFrontOf : zz_Tr := fun as h post => ∃ a sg, as = [zz_r 6 (some a), zz_r 2 sg] ∧ post none (zz_pI (zz_pI (zz_pR h 6 0 a sg) 6 1 a 0) 6 2 a (zz_b (sg = none)))
set_option maxRecDepth 100000 in
set_option maxHeartbeats 4000000 in
theorem m_Q_standInFrontOf (l : Launch) : zz_Met l y_Q_standInFrontOf w_Q_standInFrontOf { frames := 1, cells := 0, slots := 0, locals := 12 } T_Q_standInFrontOf := by
  refine zz_ofZ (by decide) (fun as h post hT => ?_) ?_
  · obtain ⟨a, sg, rfl, hp⟩ := hT
    exact ⟨by simp [zz_cat], by simp⟩
  · intro D DA h as post hT p e s m args below meth c Q C hr hlk hnm hQ
    obtain ⟨a, sg, rfl, hp⟩ := hT
    refine zz_aload_n (q := 1) (f := 0) (i := 0) C (by decide +kernel) rfl rfl rfl ?_
    refine zz_aload_n (q := 2) (f := 1) (i := 1) C (by decide +kernel) rfl rfl rfl ?_
    refine zz_putR (q := 5) C gf_Q_7 (fun h => by cases h) (by decide +kernel) rfl (by first | rfl | assumption) ?_
    refine zz_aload_n (q := 6) (f := 0) (i := 0) C (by decide +kernel) rfl rfl rfl ?_
    refine zz_iconst (q := 7) (n := 0) (x := 0) C (by decide +kernel) rfl (by decide +kernel) ?_
    refine zz_putI (q := 10) C gf_Q_13 (fun h => by cases h) (fun _ => Or.inl rfl) (by decide +kernel) rfl (by first | rfl | assumption) ?_
    refine zz_aload_n (q := 11) (f := 0) (i := 0) C (by decide +kernel) rfl rfl rfl ?_
    refine zz_aload_n (q := 12) (f := 1) (i := 1) C (by decide +kernel) rfl rfl rfl ?_
    refine zz_ifnonnull (off := 7) (tgt := 19) (q := 15) C (by decide +kernel) (by decide) rfl (fun a12 c12 => ?_) (fun c12 => ?_)
    · refine zz_iconst (q := 20) (n := 0) (x := 0) C (by decide +kernel) rfl (by decide +kernel) ?_
      refine zz_putI (q := 23) C gf_Q_17 (fun h => by cases h) (fun _ => by decide) (by decide +kernel) rfl (by first | rfl | assumption) ?_
      refine zz_vret C hr hlk (by decide +kernel) hQ (by decide) (by decide) ?_
      first | (rw [zz_bT c12] at hp; exact hp) | (rw [zz_bF (by rw [c12]; exact fun z => by cases z)] at hp; exact hp)
    · refine zz_iconst (q := 16) (n := 1) (x := 1) C (by decide +kernel) rfl (by decide +kernel) ?_
      refine zz_goto (off := 4) (tgt := 20) C (by decide +kernel) (by decide) ?_
      refine zz_putI (q := 23) C gf_Q_17 (fun h => by cases h) (fun _ => by decide) (by decide +kernel) rfl (by first | rfl | assumption) ?_
      refine zz_vret C hr hlk (by decide +kernel) hQ (by decide) (by decide) ?_
      first | (rw [zz_bT c12] at hp; exact hp) | (rw [zz_bF (by rw [c12]; exact fun z => by cases z)] at hp; exact hp)

def T_Q_standing : zz_Tr := fun as h post => ∃ a, as = [zz_r 6 (some a)] ∧ post (some (zz_r 2 (if zz_fI h 6 1 a = 0 then none else zz_fR h 6 0 a))) h
set_option maxRecDepth 100000 in
set_option maxHeartbeats 4000000 in
theorem m_Q_standing (l : Launch) : zz_Met l y_Q_standing w_Q_standing { frames := 1, cells := 0, slots := 0, locals := 12 } T_Q_standing := by
  refine zz_ofZ (by decide) (fun as h post hT => ?_) ?_
  · obtain ⟨a, rfl, hp⟩ := hT
    exact ⟨by simp [zz_cat], by simp⟩
  · intro D DA h as post hT p e s m args below meth c Q C hr hlk hnm hQ
    obtain ⟨a, rfl, hp⟩ := hT
    refine zz_aload_n (q := 1) (f := 0) (i := 0) C (by decide +kernel) rfl rfl rfl ?_
    refine zz_getI (q := 4) C gf_Q_13 (by decide +kernel) rfl (by first | rfl | assumption) rfl ?_
    refine zz_if_eq (off := 10) (tgt := 14) (q := 7) C (by decide +kernel) (by decide) rfl (fun c4 => ?_) (fun c4 => ?_)
    · refine zz_null (q := 15) C 2 (by decide +kernel) rfl ?_
      refine zz_aret C hr (Or.inl ⟨_, rfl⟩) hlk (by decide +kernel) hQ (by decide) (by decide) ?_
      first | (rw [if_pos c4] at hp; exact hp) | (rw [if_neg c4] at hp; exact hp)
    · refine zz_aload_n (q := 8) (f := 0) (i := 0) C (by decide +kernel) rfl rfl rfl ?_
      refine zz_getR (q := 11) C gf_Q_7 (by decide +kernel) rfl (by first | rfl | assumption) rfl ?_
      refine zz_goto (off := 4) (tgt := 15) C (by decide +kernel) (by decide) ?_
      refine zz_aret C hr (Or.inl ⟨_, rfl⟩) hlk (by decide +kernel) hQ (by decide) (by decide) ?_
      first | (rw [if_pos c4] at hp; exact hp) | (rw [if_neg c4] at hp; exact hp)

def T_Q_before : zz_Tr := fun as h post => ∃ a d, as = [zz_r 6 (some a), zz_r 5 (some d)] ∧ or_okN h d ∧ ∀ i, ((∃ s9, zz_fR h 6 0 a = some s9 ∧ i ≤ or_s h d ∧ (∀ j, j < i → zz_aR h (or_n h d) j ≠ some s9) ∧ (i < or_s h d → zz_aR h (or_n h d) i = some s9)) ∨ (zz_fR h 6 0 a = none ∧ zz_fI h 6 2 a = 0 ∧ i = 0) ∨ (zz_fR h 6 0 a = none ∧ zz_fI h 6 2 a ≠ 0 ∧ i = or_s h d)) → post (some (zz_i (nI i))) h
set_option maxRecDepth 100000 in
set_option maxHeartbeats 4000000 in
theorem m_Q_before (l : Launch) : zz_Met l y_Q_before w_Q_before { frames := 2, cells := 0, slots := 0, locals := 34 } T_Q_before := by
  refine zz_ofZ (by decide) (fun as h post hT => ?_) ?_
  · obtain ⟨a, d, rfl, hok, hp⟩ := hT
    exact ⟨by simp [zz_cat], by simp⟩
  · intro D DA h as post hT p e s m args below meth c Q C hr hlk hnm hQ
    obtain ⟨a, d, rfl, hok, hp⟩ := hT
    refine zz_aload_n (q := 1) (f := 0) (i := 0) C (by decide +kernel) rfl rfl rfl ?_
    refine zz_getR (q := 4) C gf_Q_7 (by decide +kernel) rfl (by first | rfl | assumption) rfl ?_
    refine zz_ifnull (off := 12) (tgt := 16) (q := 7) C (by decide +kernel) (by decide) rfl (fun c4 => ?_) (fun a4 c4 => ?_)
    · refine zz_aload_n (q := 17) (f := 0) (i := 0) C (by decide +kernel) rfl rfl rfl ?_
      refine zz_getI (q := 20) C gf_Q_17 (by decide +kernel) rfl (by first | rfl | assumption) rfl ?_
      refine zz_if_eq (off := 10) (tgt := 30) (q := 23) C (by decide +kernel) (by decide) rfl (fun c20 => ?_) (fun c20 => ?_)
      · refine zz_iconst (q := 31) (n := 0) (x := 0) C (by decide +kernel) rfl (by decide +kernel) ?_
        refine zz_iret C hr hlk (by decide +kernel) hQ (by decide) (by decide) ?_
        first | exact hp _ (Or.inr (Or.inl ⟨c4, c20, rfl⟩)) | exact hp _ (Or.inr (Or.inr ⟨c4, c20, rfl⟩))
      · refine zz_aload_n (q := 24) (f := 1) (i := 1) C (by decide +kernel) rfl rfl rfl ?_
        refine zz_getI (q := 27) C gf_Q_26 (by decide +kernel) rfl (by first | rfl | assumption) hok.1.2.2.2.2.2.2 ?_
        refine zz_goto (off := 4) (tgt := 31) C (by decide +kernel) (by decide) ?_
        refine zz_iret C hr hlk (by decide +kernel) hQ (by decide) (by decide) ?_
        first | exact hp _ (Or.inr (Or.inl ⟨c4, c20, rfl⟩)) | exact hp _ (Or.inr (Or.inr ⟨c4, c20, rfl⟩))
    · refine zz_aload_n (q := 8) (f := 1) (i := 1) C (by decide +kernel) rfl rfl rfl ?_
      refine zz_aload_n (q := 9) (f := 0) (i := 0) C (by decide +kernel) rfl rfl rfl ?_
      refine zz_getR (q := 12) C gf_Q_7 (by decide +kernel) rfl (by first | rfl | assumption) rfl ?_
      refine zz_callV (q := 15) C (m_O_indexOf l) cv_Q_20 (by decide +kernel) rfl rfl rfl (by first | rfl | assumption) (by decide) (by decide) (Nat.le_of_ble_eq_true rfl) ⟨_, _, rfl, hok, fun i h1 h2 h3 => ?_⟩
      refine zz_iret C hr hlk (by decide +kernel) hQ (by decide) (by decide) ?_
      exact hp i (Or.inl ⟨a4, c4, h1, fun j hj => (by rw [← c4]; exact h2 j hj), fun z => (by rw [← c4]; exact h3 z)⟩)

def T_Q_firstBehind : zz_Tr := fun as h post => ∃ a d, as = [zz_r 6 (some a), zz_r 5 (some d)] ∧ or_okN h d ∧ ∀ i, ((∃ s9, zz_fR h 6 0 a = some s9 ∧ i ≤ or_s h d ∧ (∀ j, j < i → zz_aR h (or_n h d) j ≠ some s9) ∧ (i < or_s h d → zz_aR h (or_n h d) i = some s9)) ∨ (zz_fR h 6 0 a = none ∧ zz_fI h 6 2 a = 0 ∧ i = 0) ∨ (zz_fR h 6 0 a = none ∧ zz_fI h 6 2 a ≠ 0 ∧ i = or_s h d)) → post (some (zz_i (nI (i + if zz_fI h 6 1 a = 0 then 0 else 1)))) h
set_option maxRecDepth 100000 in
set_option maxHeartbeats 4000000 in
theorem m_Q_firstBehind (l : Launch) : zz_Met l y_Q_firstBehind w_Q_firstBehind { frames := 3, cells := 0, slots := 0, locals := 55 } T_Q_firstBehind := by
  refine zz_ofZ (by decide) (fun as h post hT => ?_) ?_
  · obtain ⟨a, d, rfl, hok, hp⟩ := hT
    exact ⟨by simp [zz_cat], by simp⟩
  · intro D DA h as post hT p e s m args below meth c Q C hr hlk hnm hQ
    obtain ⟨a, d, rfl, hok, hp⟩ := hT
    refine zz_aload_n (q := 1) (f := 0) (i := 0) C (by decide +kernel) rfl rfl rfl ?_
    refine zz_aload_n (q := 2) (f := 1) (i := 1) C (by decide +kernel) rfl rfl rfl ?_
    refine zz_callV (q := 5) C (m_Q_before l) cv_Q_30 (by decide +kernel) rfl rfl rfl (by first | rfl | assumption) (by decide) (by decide) (Nat.le_of_ble_eq_true rfl) ⟨_, _, rfl, hok, fun i hi => ?_⟩
    refine zz_aload_n (q := 6) (f := 0) (i := 0) C (by decide +kernel) rfl rfl rfl ?_
    refine zz_getI (q := 9) C gf_Q_13 (by decide +kernel) rfl (by first | rfl | assumption) rfl ?_
    refine zz_if_eq (off := 7) (tgt := 16) (q := 12) C (by decide +kernel) (by decide) rfl (fun c9 => ?_) (fun c9 => ?_)
    · refine zz_iconst (q := 17) (n := 0) (x := 0) C (by decide +kernel) rfl (by decide +kernel) ?_
      refine zz_iadd (q := 18) C (by decide +kernel) rfl rfl ?_
      refine zz_iret C hr hlk (by decide +kernel) hQ (by decide) (by decide) ?_
      have h9 := hp i hi
      first | (rw [if_pos c9] at h9; rw [show (nI i + 0 : Int32) = nI (i + 0) from by rw [Nat.add_zero]; exact Int32.add_zero _]; exact h9) | (rw [if_neg c9] at h9; rw [nI_1]; exact h9)
    · refine zz_iconst (q := 13) (n := 1) (x := 1) C (by decide +kernel) rfl (by decide +kernel) ?_
      refine zz_goto (off := 4) (tgt := 17) C (by decide +kernel) (by decide) ?_
      refine zz_iadd (q := 18) C (by decide +kernel) rfl rfl ?_
      refine zz_iret C hr hlk (by decide +kernel) hQ (by decide) (by decide) ?_
      have h9 := hp i hi
      first | (rw [if_pos c9] at h9; rw [show (nI i + 0 : Int32) = nI (i + 0) from by rw [Nat.add_zero]; exact Int32.add_zero _]; exact h9) | (rw [if_neg c9] at h9; rw [nI_1]; exact h9)
end
section
/-! Order: the twin of a new segment -/
def or_tw (h : zz_H) (a f i : Nat) : Prop := zz_fR h 1 7 (sg_k h f) ≠ none ∧ zz_fR h 2 1 (or_N h a i) = zz_fR h 1 7 (sg_k h f) ∧ zz_fR h 2 4 (or_N h a i) = none ∧ zz_fI h 1 4 (sg_k h (or_N h a i)) ≠ -1 ∧ zz_aI h (sg_w h (or_N h a i)) (kd_sq h (sg_k h (or_N h a i))) = zz_aI h (sg_w h f) (kd_sq h (sg_k h (or_N h a i)))
/-- of those among the first n for which P holds the one with the least number -/
def or_best (h : zz_H) (n : Nat) (P : Nat → Prop) (N : Nat → Nat) (r : Option Nat) : Prop := (r = none ∧ ∀ j, j < n → ¬ P j) ∨ ∃ i, i < n ∧ P i ∧ r = some (N i) ∧ ∀ j, j < n → P j → zz_fI h 2 0 (N i) ≤ zz_fI h 2 0 (N j)
theorem or_best_skip {h : zz_H} {n : Nat} {P : Nat → Prop} {N : Nat → Nat} {r : Option Nat} (hb : or_best h n P N r) (hn : ¬ P n) : or_best h (n + 1) P N r := by
  rcases hb with ⟨e, h1⟩ | ⟨i, h1, h2, e, h3⟩
  · refine Or.inl ⟨e, fun j hj => ?_⟩
    rcases Nat.lt_succ_iff_lt_or_eq.mp hj with hj | rfl
    · exact h1 j hj
    · exact hn
  · refine Or.inr ⟨i, by omega, h2, e, fun j hj hp => ?_⟩
    rcases Nat.lt_succ_iff_lt_or_eq.mp hj with hj | rfl
    · exact h3 j hj hp
    · exact absurd hp hn
theorem or_best_take0 {h : zz_H} {n : Nat} {P : Nat → Prop} {N : Nat → Nat} (hb : or_best h n P N none) (hn : P n) : or_best h (n + 1) P N (some (N n)) := by
  rcases hb with ⟨-, h1⟩ | ⟨i, h1, h2, e, h3⟩
  · refine Or.inr ⟨n, by omega, hn, rfl, fun j hj hp => ?_⟩
    rcases Nat.lt_succ_iff_lt_or_eq.mp hj with hj | rfl
    · exact absurd hp (h1 j hj)
    · exact Int32.le_refl _
  · cases e
theorem or_best_take1 {h : zz_H} {n b : Nat} {P : Nat → Prop} {N : Nat → Nat} (hb : or_best h n P N (some b)) (hn : P n) (hl : zz_fI h 2 0 (N n) < zz_fI h 2 0 b) : or_best h (n + 1) P N (some (N n)) := by
  rcases hb with ⟨e, -⟩ | ⟨i, h1, h2, e, h3⟩
  · cases e
  · cases e
    refine Or.inr ⟨n, by omega, hn, rfl, fun j hj hp => ?_⟩
    rcases Nat.lt_succ_iff_lt_or_eq.mp hj with hj | rfl
    · exact Int32.le_trans (Int32.le_of_lt hl) (h3 j hj hp)
    · exact Int32.le_refl _
theorem or_best_keep1 {h : zz_H} {n b : Nat} {P : Nat → Prop} {N : Nat → Nat} (hb : or_best h n P N (some b)) (hl : zz_fI h 2 0 b ≤ zz_fI h 2 0 (N n)) : or_best h (n + 1) P N (some b) := by
  rcases hb with ⟨e, -⟩ | ⟨i, h1, h2, e, h3⟩
  · cases e
  · cases e
    refine Or.inr ⟨i, by omega, h2, rfl, fun j hj hp => ?_⟩
    rcases Nat.lt_succ_iff_lt_or_eq.mp hj with hj | rfl
    · exact h3 j hj hp
    · exact hl
def T_O_freeTwinFor : zz_Tr := fun as h post => ∃ a f, as = [zz_r 5 (some a), zz_r 2 (some f)] ∧ or_okN h a ∧ sg_wf h ∧ kd_wf h ∧ ∀ r, or_best h (or_s h a) (or_tw h a f) (or_N h a) r → post (some (zz_r 2 r)) h
set_option maxRecDepth 100000 in
set_option maxHeartbeats 4000000 in
theorem m_O_freeTwinFor (l : Launch) : zz_Met l y_O_freeTwinFor w_O_freeTwinFor { frames := 3, cells := 0, slots := 0, locals := 53 } T_O_freeTwinFor := by
  refine zz_ofZ (by decide) (fun as h post hT => ?_) ?_
  · obtain ⟨a, f, rfl, hok, hwf, hkw, hp⟩ := hT
    exact ⟨by simp [zz_cat], by simp⟩
  · intro D DA h as post hT p e s m args below meth c Q C hr hlk hnm hQ
    obtain ⟨a, f, rfl, hok, hwf, hkw, hp⟩ := hT
    refine zz_know (fun hty _ hTL _ => ?_)
    obtain ⟨nf, htf⟩ := hTL 1 _ rfl f rfl
    have hof := hwf f nf htf
    have lp4 : ∀ n i, n + i = or_s h a → ∀ v9 best, or_best h i (or_tw h a f) (or_N h a) best → zz_Z p l e { frames := 3, cells := 0, slots := 0, locals := 53 } s m args below meth c Q D DA (zz_A h s.heap.size) h 5 4 [some (zz_r 5 (some a)), some (zz_r 2 (some f)), some (zz_r 2 best), some (zz_i (nI i)), v9] [] h 0 0 := by
      intro n
      induction n with
      | zero =>
        intro i hni v9 best hbest
        have hi : i = or_s h a := by omega
        subst hi
        have hb := hok.1.2.2.2.2.2.1
        refine zz_iload_n (q := 5) (f := 3) (i := 3) C (by decide +kernel) rfl rfl rfl ?_
        refine zz_aload_n (q := 6) (f := 0) (i := 0) C (by decide +kernel) rfl rfl rfl ?_
        refine zz_getI (q := 9) C gf_O_35 (by decide +kernel) rfl rfl hok.1.2.2.2.2.2.2 ?_
        refine zz_icmp_ge (off := 81) (tgt := 90) (q := 12) C (by decide +kernel) (by decide) rfl (fun c9 => ?_) (fun c9 => absurd (nI_le (Nat.le_refl _) (by omega)) c9)
        refine zz_aload_n (q := 91) (f := 2) (i := 2) C (by decide +kernel) rfl rfl rfl ?_
        exact zz_aret C hr (Or.inl ⟨_, rfl⟩) hlk (by decide +kernel) hQ (by decide) (by decide) (hp _ hbest)
      | succ n ih =>
        intro i hni v9 best hbest
        have hb := hok.1.2.2.2.2.2.1
        have hi : i < or_s h a := by omega
        obtain ⟨ns, hts⟩ := or_tag hty hok hi
        have hos := hwf _ ns hts
        obtain ⟨nk, htk⟩ := hty.1 _ 2 ns 1 1 hts (by decide) rfl _ hos.1
        have hks := hkw _ nk htk
        refine zz_iload_n (q := 5) (f := 3) (i := 3) C (by decide +kernel) rfl rfl rfl ?_
        refine zz_aload_n (q := 6) (f := 0) (i := 0) C (by decide +kernel) rfl rfl rfl ?_
        refine zz_getI (q := 9) C gf_O_35 (by decide +kernel) rfl (by first | rfl | assumption) hok.1.2.2.2.2.2.2 ?_
        refine zz_icmp_ge (off := 81) (tgt := 90) (q := 12) C (by decide +kernel) (by decide) rfl (fun c9 => ?_) (fun c9 => ?_)
        · refine zz_aload_n (q := 91) (f := 2) (i := 2) C (by decide +kernel) rfl rfl rfl ?_
          refine zz_aret C hr (Or.inl ⟨_, rfl⟩) hlk (by decide +kernel) hQ (by decide) (by decide) ?_
          first | exact absurd c9 (nI_ge hi (by omega)) | exact hp _ (Or.inl (by
            rcases hbest with ⟨e1, -⟩ | ⟨j, -, h2, -, -⟩
            · exact ⟨e1, fun j _ z => z.1 c19⟩
            · exact absurd c19 h2.1))
        · refine zz_aload_n (q := 13) (f := 1) (i := 1) C (by decide +kernel) rfl rfl rfl ?_
          refine zz_getR (q := 16) C gf_O_50 (by decide +kernel) rfl (by first | rfl | assumption) hof.1 ?_
          refine zz_getR (q := 19) C gf_O_70 (by decide +kernel) rfl (by first | rfl | assumption) rfl ?_
          refine zz_ifnull (off := 71) (tgt := 90) (q := 22) C (by decide +kernel) (by decide) rfl (fun c19 => ?_) (fun a19 c19 => ?_)
          · refine zz_aload_n (q := 91) (f := 2) (i := 2) C (by decide +kernel) rfl rfl rfl ?_
            refine zz_aret C hr (Or.inl ⟨_, rfl⟩) hlk (by decide +kernel) hQ (by decide) (by decide) ?_
            first | exact absurd c9 (nI_ge hi (by omega)) | exact hp _ (Or.inl (by
              rcases hbest with ⟨e1, -⟩ | ⟨j, -, h2, -, -⟩
              · exact ⟨e1, fun j _ z => z.1 c19⟩
              · exact absurd c19 h2.1))
          · refine zz_aload_n (q := 23) (f := 0) (i := 0) C (by decide +kernel) rfl rfl rfl ?_
            refine zz_getR (q := 26) C gf_O_17 (by decide +kernel) rfl (by first | rfl | assumption) hok.1.2.1 ?_
            refine zz_iload_n (q := 27) (f := 3) (i := 3) C (by decide +kernel) rfl rfl rfl ?_
            refine zz_aaload (q := 28) C 4 rfl (by decide) (by decide +kernel) rfl rfl hok.1.2.2.2.1 rfl (by have := hok.1.2.2.2.2.2.1; omega) (by decide) (hok.2 i hi) ?_
            refine zz_astore (q := 30) (i := 4) C (by decide +kernel) rfl (by decide) rfl ?_
            refine zz_aload (q := 32) (i := 4) C (by decide +kernel) rfl rfl ?_
            refine zz_getR (q := 35) C gf_O_50 (by decide +kernel) rfl (by first | rfl | assumption) rfl ?_
            refine zz_aload_n (q := 36) (f := 1) (i := 1) C (by decide +kernel) rfl rfl rfl ?_
            refine zz_getR (q := 39) C gf_O_50 (by decide +kernel) rfl (by first | rfl | assumption) hof.1 ?_
            refine zz_getR (q := 42) C gf_O_70 (by decide +kernel) rfl (by first | rfl | assumption) rfl ?_
            refine zz_acmp_ne (off := 42) (tgt := 84) (q := 45) C (by decide +kernel) (by decide) rfl (fun c42 => ?_) (fun c42 => ?_)
            · refine zz_iinc (q := 87) (i := 3) (n := 1) C (by decide +kernel) rfl rfl (nI_succ _).symm (by decide) rfl ?_
              refine zz_goto (off := -83) (tgt := 4) C (by decide +kernel) (by decide) ?_
              -- AT 4
              have htw : zz_fR h 1 7 (sg_k h f) ≠ none := by rw [c19]; exact fun z => by cases z
              first
                | exact ih (i + 1) (by omega) _ _ (or_best_skip hbest (fun z => zz_b_f c62 z.2.2.2))
                | exact ih (i + 1) (by omega) _ _ (or_best_skip hbest (fun z => Option.some_ne_none a50 (c50.symm.trans z.2.2.1)))
                | exact ih (i + 1) (by omega) _ _ (or_best_skip hbest (fun z => c42 z.2.1))
                | exact ih (i + 1) (by omega) _ _ (or_best_take1 (c66 ▸ hbest) ⟨htw, c42, c50, zz_b_t c62⟩ (Int32.not_le.mp c78))
                | exact ih (i + 1) (by omega) _ _ (c66 ▸ or_best_keep1 (c66 ▸ hbest) c78)
                | exact ih (i + 1) (by omega) _ _ (or_best_take0 (c66 ▸ hbest) ⟨htw, c42, c50, zz_b_t c62⟩)
            · refine zz_aload (q := 47) (i := 4) C (by decide +kernel) rfl rfl ?_
              refine zz_getR (q := 50) C gf_O_73 (by decide +kernel) rfl (by first | rfl | assumption) rfl ?_
              refine zz_ifnonnull (off := 34) (tgt := 84) (q := 53) C (by decide +kernel) (by decide) rfl (fun a50 c50 => ?_) (fun c50 => ?_)
              · refine zz_iinc (q := 87) (i := 3) (n := 1) C (by decide +kernel) rfl rfl (nI_succ _).symm (by decide) rfl ?_
                refine zz_goto (off := -83) (tgt := 4) C (by decide +kernel) (by decide) ?_
                -- AT 4
                have htw : zz_fR h 1 7 (sg_k h f) ≠ none := by rw [c19]; exact fun z => by cases z
                first
                  | exact ih (i + 1) (by omega) _ _ (or_best_skip hbest (fun z => zz_b_f c62 z.2.2.2))
                  | exact ih (i + 1) (by omega) _ _ (or_best_skip hbest (fun z => Option.some_ne_none a50 (c50.symm.trans z.2.2.1)))
                  | exact ih (i + 1) (by omega) _ _ (or_best_skip hbest (fun z => c42 z.2.1))
                  | exact ih (i + 1) (by omega) _ _ (or_best_take1 (c66 ▸ hbest) ⟨htw, c42, c50, zz_b_t c62⟩ (Int32.not_le.mp c78))
                  | exact ih (i + 1) (by omega) _ _ (c66 ▸ or_best_keep1 (c66 ▸ hbest) c78)
                  | exact ih (i + 1) (by omega) _ _ (or_best_take0 (c66 ▸ hbest) ⟨htw, c42, c50, zz_b_t c62⟩)
              · refine zz_aload (q := 55) (i := 4) C (by decide +kernel) rfl rfl ?_
                refine zz_aload_n (q := 56) (f := 1) (i := 1) C (by decide +kernel) rfl rfl rfl ?_
                refine zz_getR (q := 59) C gf_O_75 (by decide +kernel) rfl (by first | rfl | assumption) hof.2.1 ?_
                refine zz_callV (q := 62) C (m_S_hasSequenceOf l) cv_O_66 (by decide +kernel) rfl rfl rfl (by first | rfl | assumption) (by decide) (by decide) (Nat.le_of_ble_eq_true rfl) ⟨_, _, rfl, hos, hks, hof.2.2.1, ?_⟩
                refine zz_if_eq (off := 22) (tgt := 84) (q := 65) C (by decide +kernel) (by decide) rfl (fun c62 => ?_) (fun c62 => ?_)
                · refine zz_iinc (q := 87) (i := 3) (n := 1) C (by decide +kernel) rfl rfl (nI_succ _).symm (by decide) rfl ?_
                  refine zz_goto (off := -83) (tgt := 4) C (by decide +kernel) (by decide) ?_
                  -- AT 4
                  have htw : zz_fR h 1 7 (sg_k h f) ≠ none := by rw [c19]; exact fun z => by cases z
                  first
                    | exact ih (i + 1) (by omega) _ _ (or_best_skip hbest (fun z => zz_b_f c62 z.2.2.2))
                    | exact ih (i + 1) (by omega) _ _ (or_best_skip hbest (fun z => Option.some_ne_none a50 (c50.symm.trans z.2.2.1)))
                    | exact ih (i + 1) (by omega) _ _ (or_best_skip hbest (fun z => c42 z.2.1))
                    | exact ih (i + 1) (by omega) _ _ (or_best_take1 (c66 ▸ hbest) ⟨htw, c42, c50, zz_b_t c62⟩ (Int32.not_le.mp c78))
                    | exact ih (i + 1) (by omega) _ _ (c66 ▸ or_best_keep1 (c66 ▸ hbest) c78)
                    | exact ih (i + 1) (by omega) _ _ (or_best_take0 (c66 ▸ hbest) ⟨htw, c42, c50, zz_b_t c62⟩)
                · refine zz_aload_n (q := 66) (f := 2) (i := 2) C (by decide +kernel) rfl rfl rfl ?_
                  refine zz_ifnull (off := 15) (tgt := 81) (q := 69) C (by decide +kernel) (by decide) rfl (fun c66 => ?_) (fun a66 c66 => ?_)
                  · refine zz_aload (q := 83) (i := 4) C (by decide +kernel) rfl rfl ?_
                    refine zz_astore_n (q := 84) (f := 2) (i := 2) C (by decide +kernel) rfl rfl (by decide) rfl ?_
                    refine zz_iinc (q := 87) (i := 3) (n := 1) C (by decide +kernel) rfl rfl (nI_succ _).symm (by decide) rfl ?_
                    refine zz_goto (off := -83) (tgt := 4) C (by decide +kernel) (by decide) ?_
                    -- AT 4
                    have htw : zz_fR h 1 7 (sg_k h f) ≠ none := by rw [c19]; exact fun z => by cases z
                    first
                      | exact ih (i + 1) (by omega) _ _ (or_best_skip hbest (fun z => zz_b_f c62 z.2.2.2))
                      | exact ih (i + 1) (by omega) _ _ (or_best_skip hbest (fun z => Option.some_ne_none a50 (c50.symm.trans z.2.2.1)))
                      | exact ih (i + 1) (by omega) _ _ (or_best_skip hbest (fun z => c42 z.2.1))
                      | exact ih (i + 1) (by omega) _ _ (or_best_take1 (c66 ▸ hbest) ⟨htw, c42, c50, zz_b_t c62⟩ (Int32.not_le.mp c78))
                      | exact ih (i + 1) (by omega) _ _ (c66 ▸ or_best_keep1 (c66 ▸ hbest) c78)
                      | exact ih (i + 1) (by omega) _ _ (or_best_take0 (c66 ▸ hbest) ⟨htw, c42, c50, zz_b_t c62⟩)
                  · refine zz_aload (q := 71) (i := 4) C (by decide +kernel) rfl rfl ?_
                    refine zz_getI (q := 74) C gf_O_38 (by decide +kernel) rfl (by first | rfl | assumption) rfl ?_
                    refine zz_aload_n (q := 75) (f := 2) (i := 2) C (by decide +kernel) rfl rfl rfl ?_
                    refine zz_getI (q := 78) C gf_O_38 (by decide +kernel) rfl (by first | rfl | assumption) rfl ?_
                    refine zz_icmp_ge (off := 6) (tgt := 84) (q := 81) C (by decide +kernel) (by decide) rfl (fun c78 => ?_) (fun c78 => ?_)
                    · refine zz_iinc (q := 87) (i := 3) (n := 1) C (by decide +kernel) rfl rfl (nI_succ _).symm (by decide) rfl ?_
                      refine zz_goto (off := -83) (tgt := 4) C (by decide +kernel) (by decide) ?_
                      -- AT 4
                      have htw : zz_fR h 1 7 (sg_k h f) ≠ none := by rw [c19]; exact fun z => by cases z
                      first
                        | exact ih (i + 1) (by omega) _ _ (or_best_skip hbest (fun z => zz_b_f c62 z.2.2.2))
                        | exact ih (i + 1) (by omega) _ _ (or_best_skip hbest (fun z => Option.some_ne_none a50 (c50.symm.trans z.2.2.1)))
                        | exact ih (i + 1) (by omega) _ _ (or_best_skip hbest (fun z => c42 z.2.1))
                        | exact ih (i + 1) (by omega) _ _ (or_best_take1 (c66 ▸ hbest) ⟨htw, c42, c50, zz_b_t c62⟩ (Int32.not_le.mp c78))
                        | exact ih (i + 1) (by omega) _ _ (c66 ▸ or_best_keep1 (c66 ▸ hbest) c78)
                        | exact ih (i + 1) (by omega) _ _ (or_best_take0 (c66 ▸ hbest) ⟨htw, c42, c50, zz_b_t c62⟩)
                    · refine zz_aload (q := 83) (i := 4) C (by decide +kernel) rfl rfl ?_
                      refine zz_astore_n (q := 84) (f := 2) (i := 2) C (by decide +kernel) rfl rfl (by decide) rfl ?_
                      refine zz_iinc (q := 87) (i := 3) (n := 1) C (by decide +kernel) rfl rfl (nI_succ _).symm (by decide) rfl ?_
                      refine zz_goto (off := -83) (tgt := 4) C (by decide +kernel) (by decide) ?_
                      -- AT 4
                      have htw : zz_fR h 1 7 (sg_k h f) ≠ none := by rw [c19]; exact fun z => by cases z
                      first
                        | exact ih (i + 1) (by omega) _ _ (or_best_skip hbest (fun z => zz_b_f c62 z.2.2.2))
                        | exact ih (i + 1) (by omega) _ _ (or_best_skip hbest (fun z => Option.some_ne_none a50 (c50.symm.trans z.2.2.1)))
                        | exact ih (i + 1) (by omega) _ _ (or_best_skip hbest (fun z => c42 z.2.1))
                        | exact ih (i + 1) (by omega) _ _ (or_best_take1 (c66 ▸ hbest) ⟨htw, c42, c50, zz_b_t c62⟩ (Int32.not_le.mp c78))
                        | exact ih (i + 1) (by omega) _ _ (c66 ▸ or_best_keep1 (c66 ▸ hbest) c78)
                        | exact ih (i + 1) (by omega) _ _ (or_best_take0 (c66 ▸ hbest) ⟨htw, c42, c50, zz_b_t c62⟩)
    refine zz_null (q := 1) C 2 (by decide +kernel) rfl ?_
    refine zz_astore_n (q := 2) (f := 2) (i := 2) C (by decide +kernel) rfl rfl (by decide) rfl ?_
    refine zz_iconst (q := 3) (n := 0) (x := 0) C (by decide +kernel) rfl (by decide +kernel) ?_
    refine zz_istore_n (q := 4) (f := 3) (i := 3) C (by decide +kernel) rfl rfl (by decide) rfl ?_
    -- AT 4
    exact lp4 (or_s h a) 0 rfl none none (Or.inl ⟨rfl, fun j hj => absurd hj (by omega)⟩)
end
section
/-! Order: where a segment enters, what stands behind a tree -/
def or_eE (h : zz_H) (a f i : Nat) : Prop := zz_fR h 2 2 (or_B h a i) = zz_fR h 2 2 f ∧ sg_eb h f (or_B h a i)
def or_eT (h : zz_H) (a f i : Nat) : Prop := ∀ t, zz_fR h 2 2 f = some t → sg_at h (sg_lv h t) (or_B h a i) = some t
/-- behind the last below n for which T holds -/
def or_end (n : Nat) (T : Nat → Prop) (r : Nat) : Prop := r ≤ n ∧ (r = 0 ∨ T (r - 1)) ∧ ∀ j, r ≤ j → j < n → ¬ T j
theorem or_end_no {n r : Nat} {T : Nat → Prop} (h : or_end n T r) (hn : ¬ T n) : or_end (n + 1) T r := ⟨Nat.le_succ_of_le h.1, h.2.1, fun j h1 h2 => by
  rcases Nat.lt_succ_iff_lt_or_eq.mp h2 with h2 | rfl
  · exact h.2.2 j h1 h2
  · exact hn⟩
theorem or_end_yes {n : Nat} {T : Nat → Prop} (hn : T n) : or_end (n + 1) T (n + 1) := ⟨Nat.le_refl _, Or.inr hn, fun j h1 h2 => absurd h1 (by omega)⟩
def or_entry (h : zz_H) (a f r : Nat) : Prop := (r < or_s h a ∧ or_eE h a f r ∧ ∀ j, 0 ≤ j → j < r → ¬ or_eE h a f j) ∨ ((∀ j, 0 ≤ j → j < or_s h a → ¬ or_eE h a f j) ∧ or_end (or_s h a) (or_eT h a f) r)
def T_O_entryOf : zz_Tr := fun as h post => ∃ a f, as = [zz_r 5 (some a), zz_r 2 (some f)] ∧ or_okB h a ∧ sg_wf h ∧ kd_wf h ∧ ∀ r, or_entry h a f r → post (some (zz_i (nI r))) h
set_option maxRecDepth 100000 in
set_option maxHeartbeats 4000000 in
theorem m_O_entryOf (l : Launch) : zz_Met l y_O_entryOf w_O_entryOf { frames := 3, cells := 0, slots := 0, locals := 56 } T_O_entryOf := by
  refine zz_ofZ (by decide) (fun as h post hT => ?_) ?_
  · obtain ⟨a, f, rfl, hok, hwf, hkw, hp⟩ := hT
    exact ⟨by simp [zz_cat], by simp⟩
  · intro D DA h as post hT p e s m args below meth c Q C hr hlk hnm hQ
    obtain ⟨a, f, rfl, hok, hwf, hkw, hp⟩ := hT
    refine zz_know (fun hty _ hTL _ => ?_)
    obtain ⟨nf, htf⟩ := hTL 1 _ rfl f rfl
    have hof := hwf f nf htf
    obtain ⟨nk, htk⟩ := hty.1 _ 2 nf 1 1 htf (by decide) rfl _ hof.1
    have hkf := hkw _ nk htk
    have hb := hok.1.2.2.2.2.2.1
    have lp4 : ∀ n i, or_s h a + 1 ≤ n + i → i ≤ or_s h a → ∀ v9 en, (∀ j, 0 ≤ j → j < i → ¬ or_eE h a f j) → or_end i (or_eT h a f) en → zz_Z p l e { frames := 3, cells := 0, slots := 0, locals := 56 } s m args below meth c Q D DA (zz_A h s.heap.size) h 5 4 [some (zz_r 5 (some a)), some (zz_r 2 (some f)), some (zz_i (nI en)), some (zz_i (nI i)), v9] [] h 0 0 := by
      intro n
      induction n with
      | zero =>
        intro i hni hi
        exact absurd hni (by omega)
      | succ n ih =>
        intro i hni hile v9 en hall hen
        refine zz_iload_n (q := 5) (f := 3) (i := 3) C (by decide +kernel) rfl rfl rfl ?_
        refine zz_aload_n (q := 6) (f := 0) (i := 0) C (by decide +kernel) rfl rfl rfl ?_
        refine zz_getI (q := 9) C gf_O_35 (by decide +kernel) rfl (by first | rfl | assumption) hok.1.2.2.2.2.2.2 ?_
        refine zz_icmp_ge (off := 63) (tgt := 72) (q := 12) C (by decide +kernel) (by decide) rfl (fun c9 => ?_) (fun c9 => ?_)
        · refine zz_iload_n (q := 73) (f := 2) (i := 2) C (by decide +kernel) rfl rfl rfl ?_
          refine zz_iret C hr hlk (by decide +kernel) hQ (by decide) (by decide) ?_
          have he : i = or_s h a := by
            have := ((nI_leI (a := or_s h a) (b := i) (by omega) (by omega)).mp c9)
            omega
          exact hp _ (Or.inr ⟨he ▸ hall, he ▸ hen⟩)
        · have hi : i < or_s h a := Nat.lt_of_not_le (fun z => c9 (nI_le z (by omega)))
          obtain ⟨ns, hts⟩ := or_tagB hty hok hi
          have hos := hwf _ ns hts
          refine zz_aload_n (q := 13) (f := 0) (i := 0) C (by decide +kernel) rfl rfl rfl ?_
          refine zz_getR (q := 16) C gf_O_11 (by decide +kernel) rfl (by first | rfl | assumption) hok.1.1 ?_
          refine zz_iload_n (q := 17) (f := 3) (i := 3) C (by decide +kernel) rfl rfl rfl ?_
          refine zz_aaload (q := 18) C 4 rfl (by decide) (by decide +kernel) rfl rfl hok.1.2.2.1 rfl (by have := hok.1.2.2.2.2.2.1; omega) (by decide) (hok.2 i hi) ?_
          refine zz_astore (q := 20) (i := 4) C (by decide +kernel) rfl (by decide) rfl ?_
          refine zz_aload (q := 22) (i := 4) C (by decide +kernel) rfl rfl ?_
          refine zz_getR (q := 25) C gf_O_62 (by decide +kernel) rfl (by first | rfl | assumption) rfl ?_
          refine zz_aload_n (q := 26) (f := 1) (i := 1) C (by decide +kernel) rfl rfl rfl ?_
          refine zz_getR (q := 29) C gf_O_62 (by decide +kernel) rfl (by first | rfl | assumption) rfl ?_
          refine zz_acmp_ne (off := 14) (tgt := 43) (q := 32) C (by decide +kernel) (by decide) rfl (fun c29 => ?_) (fun c29 => ?_)
          · refine zz_aload_n (q := 44) (f := 1) (i := 1) C (by decide +kernel) rfl rfl rfl ?_
            refine zz_getR (q := 47) C gf_O_62 (by decide +kernel) rfl (by first | rfl | assumption) rfl ?_
            refine zz_ifnull (off := 15) (tgt := 62) (q := 50) C (by decide +kernel) (by decide) rfl (fun c47 => ?_) (fun a47 c47 => ?_)
            · refine zz_iload_n (q := 63) (f := 3) (i := 3) C (by decide +kernel) rfl rfl rfl ?_
              refine zz_iconst (q := 64) (n := 1) (x := 1) C (by decide +kernel) rfl (by decide +kernel) ?_
              refine zz_iadd (q := 65) C (by decide +kernel) rfl (nI_succ _).symm ?_
              refine zz_istore_n (q := 66) (f := 2) (i := 2) C (by decide +kernel) rfl rfl (by decide) rfl ?_
              refine zz_iinc (q := 69) (i := 3) (n := 1) C (by decide +kernel) rfl rfl (nI_succ _).symm (by decide) rfl ?_
              refine zz_goto (off := -65) (tgt := 4) C (by decide +kernel) (by decide) ?_
              -- AT 4
              first
                | exact ih (i + 1) (by omega) (by omega) _ _ (or_next hall (fun z => c29 z.1)) (or_end_yes (fun t ht => absurd (ht.symm.trans c47) (Option.some_ne_none _)))
                | exact ih (i + 1) (by omega) (by omega) _ _ (or_next hall (fun z => zz_b_f c38 z.2)) (or_end_yes (fun t ht => absurd (ht.symm.trans c47) (Option.some_ne_none _)))
                | exact ih (i + 1) (by omega) (by omega) _ _ (or_next hall (fun z => c29 z.1)) (or_end_no hen (fun z => zz_b_f c59 (z _ c47)))
                | exact ih (i + 1) (by omega) (by omega) _ _ (or_next hall (fun z => zz_b_f c38 z.2)) (or_end_no hen (fun z => zz_b_f c59 (z _ c47)))
                | exact ih (i + 1) (by omega) (by omega) _ _ (or_next hall (fun z => c29 z.1)) (or_end_yes (fun t ht => (Option.some.inj (c47.symm.trans ht)) ▸ zz_b_t c59))
                | exact ih (i + 1) (by omega) (by omega) _ _ (or_next hall (fun z => zz_b_f c38 z.2)) (or_end_yes (fun t ht => (Option.some.inj (c47.symm.trans ht)) ▸ zz_b_t c59))
            · refine zz_aload (q := 52) (i := 4) C (by decide +kernel) rfl rfl ?_
              refine zz_aload_n (q := 53) (f := 1) (i := 1) C (by decide +kernel) rfl rfl rfl ?_
              refine zz_getR (q := 56) C gf_O_62 (by decide +kernel) rfl (by first | rfl | assumption) c47 ?_
              refine zz_callV (q := 59) C (m_S_isInTreeOf l) cv_O_86 (by decide +kernel) rfl rfl rfl (by first | rfl | assumption) (by decide) (by decide) (Nat.le_of_ble_eq_true rfl) ⟨_, _, rfl, hwf, ?_⟩
              refine zz_if_eq (off := 7) (tgt := 66) (q := 62) C (by decide +kernel) (by decide) rfl (fun c59 => ?_) (fun c59 => ?_)
              · refine zz_iinc (q := 69) (i := 3) (n := 1) C (by decide +kernel) rfl rfl (nI_succ _).symm (by decide) rfl ?_
                refine zz_goto (off := -65) (tgt := 4) C (by decide +kernel) (by decide) ?_
                -- AT 4
                first
                  | exact ih (i + 1) (by omega) (by omega) _ _ (or_next hall (fun z => c29 z.1)) (or_end_yes (fun t ht => absurd (ht.symm.trans c47) (Option.some_ne_none _)))
                  | exact ih (i + 1) (by omega) (by omega) _ _ (or_next hall (fun z => zz_b_f c38 z.2)) (or_end_yes (fun t ht => absurd (ht.symm.trans c47) (Option.some_ne_none _)))
                  | exact ih (i + 1) (by omega) (by omega) _ _ (or_next hall (fun z => c29 z.1)) (or_end_no hen (fun z => zz_b_f c59 (z _ c47)))
                  | exact ih (i + 1) (by omega) (by omega) _ _ (or_next hall (fun z => zz_b_f c38 z.2)) (or_end_no hen (fun z => zz_b_f c59 (z _ c47)))
                  | exact ih (i + 1) (by omega) (by omega) _ _ (or_next hall (fun z => c29 z.1)) (or_end_yes (fun t ht => (Option.some.inj (c47.symm.trans ht)) ▸ zz_b_t c59))
                  | exact ih (i + 1) (by omega) (by omega) _ _ (or_next hall (fun z => zz_b_f c38 z.2)) (or_end_yes (fun t ht => (Option.some.inj (c47.symm.trans ht)) ▸ zz_b_t c59))
              · refine zz_iload_n (q := 63) (f := 3) (i := 3) C (by decide +kernel) rfl rfl rfl ?_
                refine zz_iconst (q := 64) (n := 1) (x := 1) C (by decide +kernel) rfl (by decide +kernel) ?_
                refine zz_iadd (q := 65) C (by decide +kernel) rfl (nI_succ _).symm ?_
                refine zz_istore_n (q := 66) (f := 2) (i := 2) C (by decide +kernel) rfl rfl (by decide) rfl ?_
                refine zz_iinc (q := 69) (i := 3) (n := 1) C (by decide +kernel) rfl rfl (nI_succ _).symm (by decide) rfl ?_
                refine zz_goto (off := -65) (tgt := 4) C (by decide +kernel) (by decide) ?_
                -- AT 4
                first
                  | exact ih (i + 1) (by omega) (by omega) _ _ (or_next hall (fun z => c29 z.1)) (or_end_yes (fun t ht => absurd (ht.symm.trans c47) (Option.some_ne_none _)))
                  | exact ih (i + 1) (by omega) (by omega) _ _ (or_next hall (fun z => zz_b_f c38 z.2)) (or_end_yes (fun t ht => absurd (ht.symm.trans c47) (Option.some_ne_none _)))
                  | exact ih (i + 1) (by omega) (by omega) _ _ (or_next hall (fun z => c29 z.1)) (or_end_no hen (fun z => zz_b_f c59 (z _ c47)))
                  | exact ih (i + 1) (by omega) (by omega) _ _ (or_next hall (fun z => zz_b_f c38 z.2)) (or_end_no hen (fun z => zz_b_f c59 (z _ c47)))
                  | exact ih (i + 1) (by omega) (by omega) _ _ (or_next hall (fun z => c29 z.1)) (or_end_yes (fun t ht => (Option.some.inj (c47.symm.trans ht)) ▸ zz_b_t c59))
                  | exact ih (i + 1) (by omega) (by omega) _ _ (or_next hall (fun z => zz_b_f c38 z.2)) (or_end_yes (fun t ht => (Option.some.inj (c47.symm.trans ht)) ▸ zz_b_t c59))
          · refine zz_aload_n (q := 33) (f := 1) (i := 1) C (by decide +kernel) rfl rfl rfl ?_
            refine zz_aload (q := 35) (i := 4) C (by decide +kernel) rfl rfl ?_
            refine zz_callV (q := 38) C (m_S_entersBefore l) cv_O_83 (by decide +kernel) rfl rfl rfl (by first | rfl | assumption) (by decide) (by decide) (Nat.le_of_ble_eq_true rfl) ⟨_, _, rfl, hof, hos, hkf, ?_⟩
            refine zz_if_eq (off := 5) (tgt := 43) (q := 41) C (by decide +kernel) (by decide) rfl (fun c38 => ?_) (fun c38 => ?_)
            · refine zz_aload_n (q := 44) (f := 1) (i := 1) C (by decide +kernel) rfl rfl rfl ?_
              refine zz_getR (q := 47) C gf_O_62 (by decide +kernel) rfl (by first | rfl | assumption) rfl ?_
              refine zz_ifnull (off := 15) (tgt := 62) (q := 50) C (by decide +kernel) (by decide) rfl (fun c47 => ?_) (fun a47 c47 => ?_)
              · refine zz_iload_n (q := 63) (f := 3) (i := 3) C (by decide +kernel) rfl rfl rfl ?_
                refine zz_iconst (q := 64) (n := 1) (x := 1) C (by decide +kernel) rfl (by decide +kernel) ?_
                refine zz_iadd (q := 65) C (by decide +kernel) rfl (nI_succ _).symm ?_
                refine zz_istore_n (q := 66) (f := 2) (i := 2) C (by decide +kernel) rfl rfl (by decide) rfl ?_
                refine zz_iinc (q := 69) (i := 3) (n := 1) C (by decide +kernel) rfl rfl (nI_succ _).symm (by decide) rfl ?_
                refine zz_goto (off := -65) (tgt := 4) C (by decide +kernel) (by decide) ?_
                -- AT 4
                first
                  | exact ih (i + 1) (by omega) (by omega) _ _ (or_next hall (fun z => c29 z.1)) (or_end_yes (fun t ht => absurd (ht.symm.trans c47) (Option.some_ne_none _)))
                  | exact ih (i + 1) (by omega) (by omega) _ _ (or_next hall (fun z => zz_b_f c38 z.2)) (or_end_yes (fun t ht => absurd (ht.symm.trans c47) (Option.some_ne_none _)))
                  | exact ih (i + 1) (by omega) (by omega) _ _ (or_next hall (fun z => c29 z.1)) (or_end_no hen (fun z => zz_b_f c59 (z _ c47)))
                  | exact ih (i + 1) (by omega) (by omega) _ _ (or_next hall (fun z => zz_b_f c38 z.2)) (or_end_no hen (fun z => zz_b_f c59 (z _ c47)))
                  | exact ih (i + 1) (by omega) (by omega) _ _ (or_next hall (fun z => c29 z.1)) (or_end_yes (fun t ht => (Option.some.inj (c47.symm.trans ht)) ▸ zz_b_t c59))
                  | exact ih (i + 1) (by omega) (by omega) _ _ (or_next hall (fun z => zz_b_f c38 z.2)) (or_end_yes (fun t ht => (Option.some.inj (c47.symm.trans ht)) ▸ zz_b_t c59))
              · refine zz_aload (q := 52) (i := 4) C (by decide +kernel) rfl rfl ?_
                refine zz_aload_n (q := 53) (f := 1) (i := 1) C (by decide +kernel) rfl rfl rfl ?_
                refine zz_getR (q := 56) C gf_O_62 (by decide +kernel) rfl (by first | rfl | assumption) c47 ?_
                refine zz_callV (q := 59) C (m_S_isInTreeOf l) cv_O_86 (by decide +kernel) rfl rfl rfl (by first | rfl | assumption) (by decide) (by decide) (Nat.le_of_ble_eq_true rfl) ⟨_, _, rfl, hwf, ?_⟩
                refine zz_if_eq (off := 7) (tgt := 66) (q := 62) C (by decide +kernel) (by decide) rfl (fun c59 => ?_) (fun c59 => ?_)
                · refine zz_iinc (q := 69) (i := 3) (n := 1) C (by decide +kernel) rfl rfl (nI_succ _).symm (by decide) rfl ?_
                  refine zz_goto (off := -65) (tgt := 4) C (by decide +kernel) (by decide) ?_
                  -- AT 4
                  first
                    | exact ih (i + 1) (by omega) (by omega) _ _ (or_next hall (fun z => c29 z.1)) (or_end_yes (fun t ht => absurd (ht.symm.trans c47) (Option.some_ne_none _)))
                    | exact ih (i + 1) (by omega) (by omega) _ _ (or_next hall (fun z => zz_b_f c38 z.2)) (or_end_yes (fun t ht => absurd (ht.symm.trans c47) (Option.some_ne_none _)))
                    | exact ih (i + 1) (by omega) (by omega) _ _ (or_next hall (fun z => c29 z.1)) (or_end_no hen (fun z => zz_b_f c59 (z _ c47)))
                    | exact ih (i + 1) (by omega) (by omega) _ _ (or_next hall (fun z => zz_b_f c38 z.2)) (or_end_no hen (fun z => zz_b_f c59 (z _ c47)))
                    | exact ih (i + 1) (by omega) (by omega) _ _ (or_next hall (fun z => c29 z.1)) (or_end_yes (fun t ht => (Option.some.inj (c47.symm.trans ht)) ▸ zz_b_t c59))
                    | exact ih (i + 1) (by omega) (by omega) _ _ (or_next hall (fun z => zz_b_f c38 z.2)) (or_end_yes (fun t ht => (Option.some.inj (c47.symm.trans ht)) ▸ zz_b_t c59))
                · refine zz_iload_n (q := 63) (f := 3) (i := 3) C (by decide +kernel) rfl rfl rfl ?_
                  refine zz_iconst (q := 64) (n := 1) (x := 1) C (by decide +kernel) rfl (by decide +kernel) ?_
                  refine zz_iadd (q := 65) C (by decide +kernel) rfl (nI_succ _).symm ?_
                  refine zz_istore_n (q := 66) (f := 2) (i := 2) C (by decide +kernel) rfl rfl (by decide) rfl ?_
                  refine zz_iinc (q := 69) (i := 3) (n := 1) C (by decide +kernel) rfl rfl (nI_succ _).symm (by decide) rfl ?_
                  refine zz_goto (off := -65) (tgt := 4) C (by decide +kernel) (by decide) ?_
                  -- AT 4
                  first
                    | exact ih (i + 1) (by omega) (by omega) _ _ (or_next hall (fun z => c29 z.1)) (or_end_yes (fun t ht => absurd (ht.symm.trans c47) (Option.some_ne_none _)))
                    | exact ih (i + 1) (by omega) (by omega) _ _ (or_next hall (fun z => zz_b_f c38 z.2)) (or_end_yes (fun t ht => absurd (ht.symm.trans c47) (Option.some_ne_none _)))
                    | exact ih (i + 1) (by omega) (by omega) _ _ (or_next hall (fun z => c29 z.1)) (or_end_no hen (fun z => zz_b_f c59 (z _ c47)))
                    | exact ih (i + 1) (by omega) (by omega) _ _ (or_next hall (fun z => zz_b_f c38 z.2)) (or_end_no hen (fun z => zz_b_f c59 (z _ c47)))
                    | exact ih (i + 1) (by omega) (by omega) _ _ (or_next hall (fun z => c29 z.1)) (or_end_yes (fun t ht => (Option.some.inj (c47.symm.trans ht)) ▸ zz_b_t c59))
                    | exact ih (i + 1) (by omega) (by omega) _ _ (or_next hall (fun z => zz_b_f c38 z.2)) (or_end_yes (fun t ht => (Option.some.inj (c47.symm.trans ht)) ▸ zz_b_t c59))
            · refine zz_iload_n (q := 42) (f := 3) (i := 3) C (by decide +kernel) rfl rfl rfl ?_
              refine zz_iret C hr hlk (by decide +kernel) hQ (by decide) (by decide) ?_
              exact hp _ (Or.inl ⟨hi, ⟨c29, zz_b_t c38⟩, hall⟩)
    refine zz_iconst (q := 1) (n := 0) (x := 0) C (by decide +kernel) rfl (by decide +kernel) ?_
    refine zz_istore_n (q := 2) (f := 2) (i := 2) C (by decide +kernel) rfl rfl (by decide) rfl ?_
    refine zz_iconst (q := 3) (n := 0) (x := 0) C (by decide +kernel) rfl (by decide +kernel) ?_
    refine zz_istore_n (q := 4) (f := 3) (i := 3) C (by decide +kernel) rfl rfl (by decide) rfl ?_
    -- AT 4
    exact lp4 (or_s h a + 1) 0 (by omega) (by omega) none 0 (fun j _ hj => absurd hj (by omega)) ⟨by omega, Or.inl rfl, fun j h1 h2 => absurd h2 (by omega)⟩

def T_O_firstBehindTree : zz_Tr := fun as h post => ∃ a t, as = [zz_r 5 (some a), zz_r 2 (some t)] ∧ or_okN h a ∧ sg_wf h ∧ ∀ f r, f ≤ or_s h a → (∀ j, j < f → zz_aR h (or_n h a) j ≠ some t) → (f < or_s h a → zz_aR h (or_n h a) f = some t) → or_first (or_s h a) f (fun i => ¬ sg_at h (sg_lv h t) (or_N h a i) = some t) (or_N h a) r → post (some (zz_r 2 r)) h
set_option maxRecDepth 100000 in
set_option maxHeartbeats 4000000 in
theorem m_O_firstBehindTree (l : Launch) : zz_Met l y_O_firstBehindTree w_O_firstBehindTree { frames := 3, cells := 0, slots := 0, locals := 56 } T_O_firstBehindTree := by
  refine zz_ofZ (by decide) (fun as h post hT => ?_) ?_
  · obtain ⟨a, t, rfl, hok, hwf, hp⟩ := hT
    exact ⟨by simp [zz_cat], by simp⟩
  · intro D DA h as post hT p e s m args below meth c Q C hr hlk hnm hQ
    obtain ⟨a, t, rfl, hok, hwf, hp⟩ := hT
    have hb := hok.1.2.2.2.2.2.1
    have lp6 : ∀ f, f ≤ or_s h a → (∀ r, or_first (or_s h a) f (fun i => ¬ sg_at h (sg_lv h t) (or_N h a i) = some t) (or_N h a) r → post (some (zz_r 2 r)) h) → ∀ n i, or_s h a + 1 ≤ n + i → i ≤ or_s h a → f ≤ i → (∀ j, f ≤ j → j < i → ¬ ¬ sg_at h (sg_lv h t) (or_N h a j) = some t) → zz_Z p l e { frames := 3, cells := 0, slots := 0, locals := 56 } s m args below meth c Q D DA (zz_A h s.heap.size) h 3 6 [some (zz_r 5 (some a)), some (zz_r 2 (some t)), some (zz_i (nI i))] [] h 0 0 := by
      intro f hf hp9 n
      induction n with
      | zero =>
        intro i hni hi
        exact absurd hni (by omega)
      | succ n ih =>
        intro i hni hile hfi hall
        refine zz_iload_n (q := 7) (f := 2) (i := 2) C (by decide +kernel) rfl rfl rfl ?_
        refine zz_aload_n (q := 8) (f := 0) (i := 0) C (by decide +kernel) rfl rfl rfl ?_
        refine zz_getI (q := 11) C gf_O_35 (by decide +kernel) rfl (by first | rfl | assumption) hok.1.2.2.2.2.2.2 ?_
        refine zz_icmp_ge (off := 29) (tgt := 40) (q := 14) C (by decide +kernel) (by decide) rfl (fun c11 => ?_) (fun c11 => ?_)
        · refine zz_null (q := 41) C 2 (by decide +kernel) rfl ?_
          refine zz_aret C hr (Or.inl ⟨_, rfl⟩) hlk (by decide +kernel) hQ (by decide) (by decide) ?_
          have he : i = or_s h a := by
            have := ((nI_leI (a := or_s h a) (b := i) (by omega) (by omega)).mp c11)
            omega
          exact hp9 _ (Or.inl ⟨rfl, he ▸ hall⟩)
        · have hi : i < or_s h a := Nat.lt_of_not_le (fun z => c11 (nI_le z (by omega)))
          refine zz_aload_n (q := 15) (f := 0) (i := 0) C (by decide +kernel) rfl rfl rfl ?_
          refine zz_getR (q := 18) C gf_O_17 (by decide +kernel) rfl (by first | rfl | assumption) hok.1.2.1 ?_
          refine zz_iload_n (q := 19) (f := 2) (i := 2) C (by decide +kernel) rfl rfl rfl ?_
          refine zz_aaload (q := 20) C 4 rfl (by decide) (by decide +kernel) rfl rfl hok.1.2.2.2.1 rfl (by have := hok.1.2.2.2.2.2.1; omega) (by decide) (hok.2 i hi) ?_
          refine zz_aload_n (q := 21) (f := 1) (i := 1) C (by decide +kernel) rfl rfl rfl ?_
          refine zz_callV (q := 24) C (m_S_isInTreeOf l) cv_O_86 (by decide +kernel) rfl rfl rfl (by first | rfl | assumption) (by decide) (by decide) (Nat.le_of_ble_eq_true rfl) ⟨_, _, rfl, hwf, ?_⟩
          refine zz_if_ne (off := 10) (tgt := 34) (q := 27) C (by decide +kernel) (by decide) rfl (fun c24 => ?_) (fun c24 => ?_)
          · refine zz_iinc (q := 37) (i := 2) (n := 1) C (by decide +kernel) rfl rfl (nI_succ _).symm (by decide) rfl ?_
            refine zz_goto (off := -31) (tgt := 6) C (by decide +kernel) (by decide) ?_
            -- AT 6
            exact ih (i + 1) (by omega) (by omega) (by omega) (or_next hall (fun z => z (zz_b_t c24)))
          · refine zz_aload_n (q := 28) (f := 0) (i := 0) C (by decide +kernel) rfl rfl rfl ?_
            refine zz_getR (q := 31) C gf_O_17 (by decide +kernel) rfl (by first | rfl | assumption) hok.1.2.1 ?_
            refine zz_iload_n (q := 32) (f := 2) (i := 2) C (by decide +kernel) rfl rfl rfl ?_
            refine zz_aaload (q := 33) C 4 rfl (by decide) (by decide +kernel) rfl rfl hok.1.2.2.2.1 rfl (by have := hok.1.2.2.2.2.2.1; omega) (by decide) (hok.2 i hi) ?_
            refine zz_aret C hr (Or.inl ⟨_, rfl⟩) hlk (by decide +kernel) hQ (by decide) (by decide) ?_
            exact hp9 _ (Or.inr ⟨i, hfi, hi, zz_b_f c24, hall, rfl⟩)
    refine zz_aload_n (q := 1) (f := 0) (i := 0) C (by decide +kernel) rfl rfl rfl ?_
    refine zz_aload_n (q := 2) (f := 1) (i := 1) C (by decide +kernel) rfl rfl rfl ?_
    refine zz_callV (q := 5) C (m_O_indexOf l) cv_O_89 (by decide +kernel) rfl rfl rfl (by first | rfl | assumption) (by decide) (by decide) (Nat.le_of_ble_eq_true rfl) ⟨_, _, rfl, hok, fun f hf1 hf2 hf3 => ?_⟩
    refine zz_istore_n (q := 6) (f := 2) (i := 2) C (by decide +kernel) rfl rfl (by decide) rfl ?_
    -- AT 6
    exact lp6 f hf1 (fun r hr => hp f r hf1 hf2 hf3 hr) (or_s h a + 1) f (by omega) hf1 (Nat.le_refl _) (fun j h1 h2 => absurd h1 (by omega))
end
section
/-! Order: the next root by the second order -/
def or_lP (h : zz_H) (a k : Nat) (pv : Option Nat) (i : Nat) : Prop := zz_fR h 2 1 (or_B h a i) = some k ∧ ∀ q, pv = some q → sg_cb h q (or_B h a i)
/-- the least of the first n, as the loop finds it; the size while there is none -/
noncomputable def or_lr (h : zz_H) (a k : Nat) (pv : Option Nat) : Nat → Nat
  | 0 => or_s h a
  | n + 1 => @ite Nat (or_lP h a k pv n ∧ (or_lr h a k pv n = or_s h a ∨ sg_cb h (or_B h a n) (or_B h a (or_lr h a k pv n)))) (Classical.propDecidable _) n (or_lr h a k pv n)
theorem or_lr_le (h : zz_H) (a k : Nat) (pv : Option Nat) : ∀ n, n ≤ or_s h a → or_lr h a k pv n = or_s h a ∨ or_lr h a k pv n < n
  | 0, _ => Or.inl rfl
  | n + 1, hn => by
    rw [or_lr]
    split
    · right; omega
    · rcases or_lr_le h a k pv n (by omega) with h1 | h1
      · exact Or.inl h1
      · right; omega
theorem or_lr_y {h : zz_H} {a k n : Nat} {pv : Option Nat} (hy : or_lP h a k pv n ∧ (or_lr h a k pv n = or_s h a ∨ sg_cb h (or_B h a n) (or_B h a (or_lr h a k pv n)))) : n = or_lr h a k pv (n + 1) := by rw [or_lr, if_pos hy]
theorem or_lr_n {h : zz_H} {a k n : Nat} {pv : Option Nat} (hy : ¬ (or_lP h a k pv n ∧ (or_lr h a k pv n = or_s h a ∨ sg_cb h (or_B h a n) (or_B h a (or_lr h a k pv n))))) : or_lr h a k pv n = or_lr h a k pv (n + 1) := by rw [or_lr, if_neg hy]
theorem nI_eqI9 {a b : Nat} (ha : a < 2 ^ 31) (hb : b < 2 ^ 31) : nI a = nI b → a = b := fun h => by
  have h1 := congrArg Int32.toNatClampNeg h
  rwa [nI_clamp ha, nI_clamp hb] at h1
def T_O_leastRootAfter : zz_Tr := fun as h post => ∃ a k pv, as = [zz_r 5 (some a), zz_r 1 (some k), zz_r 2 pv] ∧ or_okB h a ∧ sg_wf h ∧ post (some (zz_i (nI (or_lr h a k pv (or_s h a))))) h
set_option maxRecDepth 100000 in
set_option maxHeartbeats 4000000 in
theorem m_O_leastRootAfter (l : Launch) : zz_Met l y_O_leastRootAfter w_O_leastRootAfter { frames := 2, cells := 0, slots := 0, locals := 33 } T_O_leastRootAfter := by
  refine zz_ofZ (by decide) (fun as h post hT => ?_) ?_
  · obtain ⟨a, k, pv, rfl, hok, hwf, hp⟩ := hT
    exact ⟨by simp [zz_cat], by simp⟩
  · intro D DA h as post hT p e s m args below meth c Q C hr hlk hnm hQ
    obtain ⟨a, k, pv, rfl, hok, hwf, hp⟩ := hT
    refine zz_know (fun hty _ hTL _ => ?_)
    have hb := hok.1.2.2.2.2.2.1
    have hpv : ∀ q, pv = some q → (zz_fI h 2 5 q = 0 ∨ zz_fI h 2 5 q = 1) := fun q hq => by
      obtain ⟨nf, htf⟩ := hTL 2 _ rfl q hq
      exact (hwf q nf htf).2.2.2
    have lp8 : ∀ n i, or_s h a + 1 ≤ n + i → i ≤ or_s h a → ∀ v9 ls, ls = or_lr h a k pv i → zz_Z p l e { frames := 2, cells := 0, slots := 0, locals := 33 } s m args below meth c Q D DA (zz_A h s.heap.size) h 6 8 [some (zz_r 5 (some a)), some (zz_r 1 (some k)), some (zz_r 2 pv), some (zz_i (nI ls)), some (zz_i (nI i)), v9] [] h 0 0 := by
      intro n
      induction n with
      | zero =>
        intro i hni hi
        exact absurd hni (by omega)
      | succ n ih =>
        intro i hni hile v9 ls hls
        have hl := or_lr_le h a k pv i hile
        rw [← hls] at hl
        refine zz_iload (q := 10) (i := 4) C (by decide +kernel) rfl rfl ?_
        refine zz_aload_n (q := 11) (f := 0) (i := 0) C (by decide +kernel) rfl rfl rfl ?_
        refine zz_getI (q := 14) C gf_O_35 (by decide +kernel) rfl (by first | rfl | assumption) hok.1.2.2.2.2.2.2 ?_
        refine zz_icmp_ge (off := 65) (tgt := 79) (q := 17) C (by decide +kernel) (by decide) rfl (fun c14 => ?_) (fun c14 => ?_)
        · refine zz_iload_n (q := 80) (f := 3) (i := 3) C (by decide +kernel) rfl rfl rfl ?_
          refine zz_iret C hr hlk (by decide +kernel) hQ (by decide) (by decide) ?_
          have he : i = or_s h a := by
            have := ((nI_leI (a := or_s h a) (b := i) (by omega) (by omega)).mp c14)
            omega
          rw [← he, ← hls] at hp
          exact hp
        · have hi : i < or_s h a := Nat.lt_of_not_le (fun z => c14 (nI_le z (by omega)))
          obtain ⟨ns, hts⟩ := or_tagB hty hok hi
          have hos := hwf _ ns hts
          refine zz_aload_n (q := 18) (f := 0) (i := 0) C (by decide +kernel) rfl rfl rfl ?_
          refine zz_getR (q := 21) C gf_O_11 (by decide +kernel) rfl (by first | rfl | assumption) hok.1.1 ?_
          refine zz_iload (q := 23) (i := 4) C (by decide +kernel) rfl rfl ?_
          refine zz_aaload (q := 24) C 4 rfl (by decide) (by decide +kernel) rfl rfl hok.1.2.2.1 rfl (by have := hok.1.2.2.2.2.2.1; omega) (by decide) (hok.2 i hi) ?_
          refine zz_astore (q := 26) (i := 5) C (by decide +kernel) rfl (by decide) rfl ?_
          refine zz_aload (q := 28) (i := 5) C (by decide +kernel) rfl rfl ?_
          refine zz_getR (q := 31) C gf_O_50 (by decide +kernel) rfl (by first | rfl | assumption) rfl ?_
          refine zz_aload_n (q := 32) (f := 1) (i := 1) C (by decide +kernel) rfl rfl rfl ?_
          refine zz_acmp_ne (off := 41) (tgt := 73) (q := 35) C (by decide +kernel) (by decide) rfl (fun c32 => ?_) (fun c32 => ?_)
          · refine zz_iinc (q := 76) (i := 4) (n := 1) C (by decide +kernel) rfl rfl (nI_succ _).symm (by decide) rfl ?_
            refine zz_goto (off := -68) (tgt := 8) C (by decide +kernel) (by decide) ?_
            -- AT 8
            first
              | exact ih (i + 1) (by omega) (by omega) _ _ (hls.trans (or_lr_n (hls ▸ fun z => c32 z.1.1)))
              | exact ih (i + 1) (by omega) (by omega) _ _ (hls.trans (or_lr_n (hls ▸ fun z => zz_b_f c45 (z.1.2 _ c36))))
              | exact ih (i + 1) (by omega) (by omega) _ _ (hls.trans (or_lr_n (hls ▸ fun z => (z.2.elim hne (fun w => zz_b_f c67 w)))))
              | exact ih (i + 1) (by omega) (by omega) _ _ (or_lr_y (hls ▸ ⟨⟨c32, fun q hq => absurd (hq.symm.trans c36) (Option.some_ne_none _)⟩, Or.inr (zz_b_t c67)⟩))
              | exact ih (i + 1) (by omega) (by omega) _ _ (or_lr_y (hls ▸ ⟨⟨c32, fun q hq => (Option.some.inj (c36.symm.trans hq)) ▸ zz_b_t c45⟩, Or.inr (zz_b_t c67)⟩))
              | exact ih (i + 1) (by omega) (by omega) _ _ (or_lr_y (hls ▸ ⟨⟨c32, fun q hq => absurd (hq.symm.trans c36) (Option.some_ne_none _)⟩, Or.inl (nI_eqI9 (by omega) (by omega) c53)⟩))
              | exact ih (i + 1) (by omega) (by omega) _ _ (or_lr_y (hls ▸ ⟨⟨c32, fun q hq => (Option.some.inj (c36.symm.trans hq)) ▸ zz_b_t c45⟩, Or.inl (nI_eqI9 (by omega) (by omega) c53)⟩))
          · refine zz_aload_n (q := 36) (f := 2) (i := 2) C (by decide +kernel) rfl rfl rfl ?_
            refine zz_ifnull (off := 12) (tgt := 48) (q := 39) C (by decide +kernel) (by decide) rfl (fun c36 => ?_) (fun a36 c36 => ?_)
            · refine zz_iload_n (q := 49) (f := 3) (i := 3) C (by decide +kernel) rfl rfl rfl ?_
              refine zz_aload_n (q := 50) (f := 0) (i := 0) C (by decide +kernel) rfl rfl rfl ?_
              refine zz_getI (q := 53) C gf_O_35 (by decide +kernel) rfl (by first | rfl | assumption) hok.1.2.2.2.2.2.2 ?_
              refine zz_icmp_eq (off := 17) (tgt := 70) (q := 56) C (by decide +kernel) (by decide) rfl (fun c53 => ?_) (fun c53 => ?_)
              · refine zz_iload (q := 72) (i := 4) C (by decide +kernel) rfl rfl ?_
                refine zz_istore_n (q := 73) (f := 3) (i := 3) C (by decide +kernel) rfl rfl (by decide) rfl ?_
                refine zz_iinc (q := 76) (i := 4) (n := 1) C (by decide +kernel) rfl rfl (nI_succ _).symm (by decide) rfl ?_
                refine zz_goto (off := -68) (tgt := 8) C (by decide +kernel) (by decide) ?_
                -- AT 8
                first
                  | exact ih (i + 1) (by omega) (by omega) _ _ (hls.trans (or_lr_n (hls ▸ fun z => c32 z.1.1)))
                  | exact ih (i + 1) (by omega) (by omega) _ _ (hls.trans (or_lr_n (hls ▸ fun z => zz_b_f c45 (z.1.2 _ c36))))
                  | exact ih (i + 1) (by omega) (by omega) _ _ (hls.trans (or_lr_n (hls ▸ fun z => (z.2.elim hne (fun w => zz_b_f c67 w)))))
                  | exact ih (i + 1) (by omega) (by omega) _ _ (or_lr_y (hls ▸ ⟨⟨c32, fun q hq => absurd (hq.symm.trans c36) (Option.some_ne_none _)⟩, Or.inr (zz_b_t c67)⟩))
                  | exact ih (i + 1) (by omega) (by omega) _ _ (or_lr_y (hls ▸ ⟨⟨c32, fun q hq => (Option.some.inj (c36.symm.trans hq)) ▸ zz_b_t c45⟩, Or.inr (zz_b_t c67)⟩))
                  | exact ih (i + 1) (by omega) (by omega) _ _ (or_lr_y (hls ▸ ⟨⟨c32, fun q hq => absurd (hq.symm.trans c36) (Option.some_ne_none _)⟩, Or.inl (nI_eqI9 (by omega) (by omega) c53)⟩))
                  | exact ih (i + 1) (by omega) (by omega) _ _ (or_lr_y (hls ▸ ⟨⟨c32, fun q hq => (Option.some.inj (c36.symm.trans hq)) ▸ zz_b_t c45⟩, Or.inl (nI_eqI9 (by omega) (by omega) c53)⟩))
              · have hne : ls ≠ or_s h a := fun z => c53 (by rw [z])
                have hls9 : ls < or_s h a := by omega
                refine zz_aload (q := 58) (i := 5) C (by decide +kernel) rfl rfl ?_
                refine zz_aload_n (q := 59) (f := 0) (i := 0) C (by decide +kernel) rfl rfl rfl ?_
                refine zz_getR (q := 62) C gf_O_11 (by decide +kernel) rfl (by first | rfl | assumption) hok.1.1 ?_
                refine zz_iload_n (q := 63) (f := 3) (i := 3) C (by decide +kernel) rfl rfl rfl ?_
                refine zz_aaload (q := 64) C 4 rfl (by decide) (by decide +kernel) rfl rfl hok.1.2.2.1 rfl (by have := hok.1.2.2.2.2.2.1; omega) (by decide) (hok.2 ls hls9) ?_
                refine zz_callV (q := 67) C (m_S_comesBeforeBySecond l) cv_O_128 (by decide +kernel) rfl rfl rfl (by first | rfl | assumption) (by decide) (by decide) (Nat.le_of_ble_eq_true rfl) ⟨_, _, rfl, hos.2.2.2, ?_⟩
                refine zz_if_eq (off := 6) (tgt := 73) (q := 70) C (by decide +kernel) (by decide) rfl (fun c67 => ?_) (fun c67 => ?_)
                · refine zz_iinc (q := 76) (i := 4) (n := 1) C (by decide +kernel) rfl rfl (nI_succ _).symm (by decide) rfl ?_
                  refine zz_goto (off := -68) (tgt := 8) C (by decide +kernel) (by decide) ?_
                  -- AT 8
                  first
                    | exact ih (i + 1) (by omega) (by omega) _ _ (hls.trans (or_lr_n (hls ▸ fun z => c32 z.1.1)))
                    | exact ih (i + 1) (by omega) (by omega) _ _ (hls.trans (or_lr_n (hls ▸ fun z => zz_b_f c45 (z.1.2 _ c36))))
                    | exact ih (i + 1) (by omega) (by omega) _ _ (hls.trans (or_lr_n (hls ▸ fun z => (z.2.elim hne (fun w => zz_b_f c67 w)))))
                    | exact ih (i + 1) (by omega) (by omega) _ _ (or_lr_y (hls ▸ ⟨⟨c32, fun q hq => absurd (hq.symm.trans c36) (Option.some_ne_none _)⟩, Or.inr (zz_b_t c67)⟩))
                    | exact ih (i + 1) (by omega) (by omega) _ _ (or_lr_y (hls ▸ ⟨⟨c32, fun q hq => (Option.some.inj (c36.symm.trans hq)) ▸ zz_b_t c45⟩, Or.inr (zz_b_t c67)⟩))
                    | exact ih (i + 1) (by omega) (by omega) _ _ (or_lr_y (hls ▸ ⟨⟨c32, fun q hq => absurd (hq.symm.trans c36) (Option.some_ne_none _)⟩, Or.inl (nI_eqI9 (by omega) (by omega) c53)⟩))
                    | exact ih (i + 1) (by omega) (by omega) _ _ (or_lr_y (hls ▸ ⟨⟨c32, fun q hq => (Option.some.inj (c36.symm.trans hq)) ▸ zz_b_t c45⟩, Or.inl (nI_eqI9 (by omega) (by omega) c53)⟩))
                · refine zz_iload (q := 72) (i := 4) C (by decide +kernel) rfl rfl ?_
                  refine zz_istore_n (q := 73) (f := 3) (i := 3) C (by decide +kernel) rfl rfl (by decide) rfl ?_
                  refine zz_iinc (q := 76) (i := 4) (n := 1) C (by decide +kernel) rfl rfl (nI_succ _).symm (by decide) rfl ?_
                  refine zz_goto (off := -68) (tgt := 8) C (by decide +kernel) (by decide) ?_
                  -- AT 8
                  first
                    | exact ih (i + 1) (by omega) (by omega) _ _ (hls.trans (or_lr_n (hls ▸ fun z => c32 z.1.1)))
                    | exact ih (i + 1) (by omega) (by omega) _ _ (hls.trans (or_lr_n (hls ▸ fun z => zz_b_f c45 (z.1.2 _ c36))))
                    | exact ih (i + 1) (by omega) (by omega) _ _ (hls.trans (or_lr_n (hls ▸ fun z => (z.2.elim hne (fun w => zz_b_f c67 w)))))
                    | exact ih (i + 1) (by omega) (by omega) _ _ (or_lr_y (hls ▸ ⟨⟨c32, fun q hq => absurd (hq.symm.trans c36) (Option.some_ne_none _)⟩, Or.inr (zz_b_t c67)⟩))
                    | exact ih (i + 1) (by omega) (by omega) _ _ (or_lr_y (hls ▸ ⟨⟨c32, fun q hq => (Option.some.inj (c36.symm.trans hq)) ▸ zz_b_t c45⟩, Or.inr (zz_b_t c67)⟩))
                    | exact ih (i + 1) (by omega) (by omega) _ _ (or_lr_y (hls ▸ ⟨⟨c32, fun q hq => absurd (hq.symm.trans c36) (Option.some_ne_none _)⟩, Or.inl (nI_eqI9 (by omega) (by omega) c53)⟩))
                    | exact ih (i + 1) (by omega) (by omega) _ _ (or_lr_y (hls ▸ ⟨⟨c32, fun q hq => (Option.some.inj (c36.symm.trans hq)) ▸ zz_b_t c45⟩, Or.inl (nI_eqI9 (by omega) (by omega) c53)⟩))
            · refine zz_aload_n (q := 40) (f := 2) (i := 2) C (by decide +kernel) rfl rfl rfl ?_
              refine zz_aload (q := 42) (i := 5) C (by decide +kernel) rfl rfl ?_
              refine zz_callV (q := 45) C (m_S_comesBeforeBySecond l) cv_O_128 (by decide +kernel) rfl rfl rfl (by first | rfl | assumption) (by decide) (by decide) (Nat.le_of_ble_eq_true rfl) ⟨_, _, rfl, hpv _ c36, ?_⟩
              refine zz_if_eq (off := 28) (tgt := 73) (q := 48) C (by decide +kernel) (by decide) rfl (fun c45 => ?_) (fun c45 => ?_)
              · refine zz_iinc (q := 76) (i := 4) (n := 1) C (by decide +kernel) rfl rfl (nI_succ _).symm (by decide) rfl ?_
                refine zz_goto (off := -68) (tgt := 8) C (by decide +kernel) (by decide) ?_
                -- AT 8
                first
                  | exact ih (i + 1) (by omega) (by omega) _ _ (hls.trans (or_lr_n (hls ▸ fun z => c32 z.1.1)))
                  | exact ih (i + 1) (by omega) (by omega) _ _ (hls.trans (or_lr_n (hls ▸ fun z => zz_b_f c45 (z.1.2 _ c36))))
                  | exact ih (i + 1) (by omega) (by omega) _ _ (hls.trans (or_lr_n (hls ▸ fun z => (z.2.elim hne (fun w => zz_b_f c67 w)))))
                  | exact ih (i + 1) (by omega) (by omega) _ _ (or_lr_y (hls ▸ ⟨⟨c32, fun q hq => absurd (hq.symm.trans c36) (Option.some_ne_none _)⟩, Or.inr (zz_b_t c67)⟩))
                  | exact ih (i + 1) (by omega) (by omega) _ _ (or_lr_y (hls ▸ ⟨⟨c32, fun q hq => (Option.some.inj (c36.symm.trans hq)) ▸ zz_b_t c45⟩, Or.inr (zz_b_t c67)⟩))
                  | exact ih (i + 1) (by omega) (by omega) _ _ (or_lr_y (hls ▸ ⟨⟨c32, fun q hq => absurd (hq.symm.trans c36) (Option.some_ne_none _)⟩, Or.inl (nI_eqI9 (by omega) (by omega) c53)⟩))
                  | exact ih (i + 1) (by omega) (by omega) _ _ (or_lr_y (hls ▸ ⟨⟨c32, fun q hq => (Option.some.inj (c36.symm.trans hq)) ▸ zz_b_t c45⟩, Or.inl (nI_eqI9 (by omega) (by omega) c53)⟩))
              · refine zz_iload_n (q := 49) (f := 3) (i := 3) C (by decide +kernel) rfl rfl rfl ?_
                refine zz_aload_n (q := 50) (f := 0) (i := 0) C (by decide +kernel) rfl rfl rfl ?_
                refine zz_getI (q := 53) C gf_O_35 (by decide +kernel) rfl (by first | rfl | assumption) hok.1.2.2.2.2.2.2 ?_
                refine zz_icmp_eq (off := 17) (tgt := 70) (q := 56) C (by decide +kernel) (by decide) rfl (fun c53 => ?_) (fun c53 => ?_)
                · refine zz_iload (q := 72) (i := 4) C (by decide +kernel) rfl rfl ?_
                  refine zz_istore_n (q := 73) (f := 3) (i := 3) C (by decide +kernel) rfl rfl (by decide) rfl ?_
                  refine zz_iinc (q := 76) (i := 4) (n := 1) C (by decide +kernel) rfl rfl (nI_succ _).symm (by decide) rfl ?_
                  refine zz_goto (off := -68) (tgt := 8) C (by decide +kernel) (by decide) ?_
                  -- AT 8
                  first
                    | exact ih (i + 1) (by omega) (by omega) _ _ (hls.trans (or_lr_n (hls ▸ fun z => c32 z.1.1)))
                    | exact ih (i + 1) (by omega) (by omega) _ _ (hls.trans (or_lr_n (hls ▸ fun z => zz_b_f c45 (z.1.2 _ c36))))
                    | exact ih (i + 1) (by omega) (by omega) _ _ (hls.trans (or_lr_n (hls ▸ fun z => (z.2.elim hne (fun w => zz_b_f c67 w)))))
                    | exact ih (i + 1) (by omega) (by omega) _ _ (or_lr_y (hls ▸ ⟨⟨c32, fun q hq => absurd (hq.symm.trans c36) (Option.some_ne_none _)⟩, Or.inr (zz_b_t c67)⟩))
                    | exact ih (i + 1) (by omega) (by omega) _ _ (or_lr_y (hls ▸ ⟨⟨c32, fun q hq => (Option.some.inj (c36.symm.trans hq)) ▸ zz_b_t c45⟩, Or.inr (zz_b_t c67)⟩))
                    | exact ih (i + 1) (by omega) (by omega) _ _ (or_lr_y (hls ▸ ⟨⟨c32, fun q hq => absurd (hq.symm.trans c36) (Option.some_ne_none _)⟩, Or.inl (nI_eqI9 (by omega) (by omega) c53)⟩))
                    | exact ih (i + 1) (by omega) (by omega) _ _ (or_lr_y (hls ▸ ⟨⟨c32, fun q hq => (Option.some.inj (c36.symm.trans hq)) ▸ zz_b_t c45⟩, Or.inl (nI_eqI9 (by omega) (by omega) c53)⟩))
                · have hne : ls ≠ or_s h a := fun z => c53 (by rw [z])
                  have hls9 : ls < or_s h a := by omega
                  refine zz_aload (q := 58) (i := 5) C (by decide +kernel) rfl rfl ?_
                  refine zz_aload_n (q := 59) (f := 0) (i := 0) C (by decide +kernel) rfl rfl rfl ?_
                  refine zz_getR (q := 62) C gf_O_11 (by decide +kernel) rfl (by first | rfl | assumption) hok.1.1 ?_
                  refine zz_iload_n (q := 63) (f := 3) (i := 3) C (by decide +kernel) rfl rfl rfl ?_
                  refine zz_aaload (q := 64) C 4 rfl (by decide) (by decide +kernel) rfl rfl hok.1.2.2.1 rfl (by have := hok.1.2.2.2.2.2.1; omega) (by decide) (hok.2 ls hls9) ?_
                  refine zz_callV (q := 67) C (m_S_comesBeforeBySecond l) cv_O_128 (by decide +kernel) rfl rfl rfl (by first | rfl | assumption) (by decide) (by decide) (Nat.le_of_ble_eq_true rfl) ⟨_, _, rfl, hos.2.2.2, ?_⟩
                  refine zz_if_eq (off := 6) (tgt := 73) (q := 70) C (by decide +kernel) (by decide) rfl (fun c67 => ?_) (fun c67 => ?_)
                  · refine zz_iinc (q := 76) (i := 4) (n := 1) C (by decide +kernel) rfl rfl (nI_succ _).symm (by decide) rfl ?_
                    refine zz_goto (off := -68) (tgt := 8) C (by decide +kernel) (by decide) ?_
                    -- AT 8
                    first
                      | exact ih (i + 1) (by omega) (by omega) _ _ (hls.trans (or_lr_n (hls ▸ fun z => c32 z.1.1)))
                      | exact ih (i + 1) (by omega) (by omega) _ _ (hls.trans (or_lr_n (hls ▸ fun z => zz_b_f c45 (z.1.2 _ c36))))
                      | exact ih (i + 1) (by omega) (by omega) _ _ (hls.trans (or_lr_n (hls ▸ fun z => (z.2.elim hne (fun w => zz_b_f c67 w)))))
                      | exact ih (i + 1) (by omega) (by omega) _ _ (or_lr_y (hls ▸ ⟨⟨c32, fun q hq => absurd (hq.symm.trans c36) (Option.some_ne_none _)⟩, Or.inr (zz_b_t c67)⟩))
                      | exact ih (i + 1) (by omega) (by omega) _ _ (or_lr_y (hls ▸ ⟨⟨c32, fun q hq => (Option.some.inj (c36.symm.trans hq)) ▸ zz_b_t c45⟩, Or.inr (zz_b_t c67)⟩))
                      | exact ih (i + 1) (by omega) (by omega) _ _ (or_lr_y (hls ▸ ⟨⟨c32, fun q hq => absurd (hq.symm.trans c36) (Option.some_ne_none _)⟩, Or.inl (nI_eqI9 (by omega) (by omega) c53)⟩))
                      | exact ih (i + 1) (by omega) (by omega) _ _ (or_lr_y (hls ▸ ⟨⟨c32, fun q hq => (Option.some.inj (c36.symm.trans hq)) ▸ zz_b_t c45⟩, Or.inl (nI_eqI9 (by omega) (by omega) c53)⟩))
                  · refine zz_iload (q := 72) (i := 4) C (by decide +kernel) rfl rfl ?_
                    refine zz_istore_n (q := 73) (f := 3) (i := 3) C (by decide +kernel) rfl rfl (by decide) rfl ?_
                    refine zz_iinc (q := 76) (i := 4) (n := 1) C (by decide +kernel) rfl rfl (nI_succ _).symm (by decide) rfl ?_
                    refine zz_goto (off := -68) (tgt := 8) C (by decide +kernel) (by decide) ?_
                    -- AT 8
                    first
                      | exact ih (i + 1) (by omega) (by omega) _ _ (hls.trans (or_lr_n (hls ▸ fun z => c32 z.1.1)))
                      | exact ih (i + 1) (by omega) (by omega) _ _ (hls.trans (or_lr_n (hls ▸ fun z => zz_b_f c45 (z.1.2 _ c36))))
                      | exact ih (i + 1) (by omega) (by omega) _ _ (hls.trans (or_lr_n (hls ▸ fun z => (z.2.elim hne (fun w => zz_b_f c67 w)))))
                      | exact ih (i + 1) (by omega) (by omega) _ _ (or_lr_y (hls ▸ ⟨⟨c32, fun q hq => absurd (hq.symm.trans c36) (Option.some_ne_none _)⟩, Or.inr (zz_b_t c67)⟩))
                      | exact ih (i + 1) (by omega) (by omega) _ _ (or_lr_y (hls ▸ ⟨⟨c32, fun q hq => (Option.some.inj (c36.symm.trans hq)) ▸ zz_b_t c45⟩, Or.inr (zz_b_t c67)⟩))
                      | exact ih (i + 1) (by omega) (by omega) _ _ (or_lr_y (hls ▸ ⟨⟨c32, fun q hq => absurd (hq.symm.trans c36) (Option.some_ne_none _)⟩, Or.inl (nI_eqI9 (by omega) (by omega) c53)⟩))
                      | exact ih (i + 1) (by omega) (by omega) _ _ (or_lr_y (hls ▸ ⟨⟨c32, fun q hq => (Option.some.inj (c36.symm.trans hq)) ▸ zz_b_t c45⟩, Or.inl (nI_eqI9 (by omega) (by omega) c53)⟩))
    refine zz_aload_n (q := 1) (f := 0) (i := 0) C (by decide +kernel) rfl rfl rfl ?_
    refine zz_getI (q := 4) C gf_O_35 (by decide +kernel) rfl (by first | rfl | assumption) hok.1.2.2.2.2.2.2 ?_
    refine zz_istore_n (q := 5) (f := 3) (i := 3) C (by decide +kernel) rfl rfl (by decide) rfl ?_
    refine zz_iconst (q := 6) (n := 0) (x := 0) C (by decide +kernel) rfl (by decide +kernel) ?_
    refine zz_istore (q := 8) (i := 4) C (by decide +kernel) rfl (by decide) rfl ?_
    -- AT 8
    exact lp8 (or_s h a + 1) 0 (by omega) (by omega) none (or_s h a) rfl
end
section
/-! Order: trees are copied to their places -/
def or_rp (h : zz_H) (x : Nat → Nat → Option Nat) : zz_H := (h.1, h.2.1, h.2.2.1, h.2.2.2.1, x, h.2.2.2.2.2)
theorem sg_at_rp (h : zz_H) (x : Nat → Nat → Option Nat) (lv : Int32) (a : Nat) : sg_at (or_rp h x) lv a = sg_at h lv a := rfl
theorem sg_wf_rp {h : zz_H} (x : Nat → Nat → Option Nat) (hw : sg_wf h) : sg_wf (or_rp h x) := hw
theorem or_rp_sR (h : zz_H) (x : Nat → Nat → Option Nat) (a i : Nat) (v : Option Nat) : zz_sR (or_rp h x) a i v = or_rp h (fun b j => if b = a ∧ j = i then v else x b j) := rfl
/-- the first m from f on in bySequence stand from t on in now -/
def or_cp (h : zz_H) (a f t m : Nat) : zz_H := or_rp h (fun b j => if b = or_n h a ∧ t ≤ j ∧ j < t + m then zz_aR h (or_b h a) (f + (j - t)) else zz_aR h b j)
theorem or_cp_0 (h : zz_H) (a f t : Nat) : or_cp h a f t 0 = h := by
  have e : (fun b j => if b = or_n h a ∧ t ≤ j ∧ j < t + 0 then zz_aR h (or_b h a) (f + (j - t)) else zz_aR h b j) = zz_aR h := by
    funext b j
    rw [if_neg (by omega)]
  rw [or_cp, e]; rfl
theorem or_cp_b {h : zz_H} {a : Nat} (hok : or_ok h a) (f t m j : Nat) : zz_aR (or_cp h a f t m) (or_b h a) j = zz_aR h (or_b h a) j := by
  show (if or_b h a = or_n h a ∧ t ≤ j ∧ j < t + m then zz_aR h (or_b h a) (f + (j - t)) else zz_aR h (or_b h a) j) = _
  rw [if_neg (fun z => hok.2.2.2.2.1 z.1)]
theorem or_cp_B {h : zz_H} {a : Nat} (hok : or_ok h a) (f t m j : Nat) : or_B (or_cp h a f t m) a j = or_B h a j := congrArg (fun z => z.getD 0) (or_cp_b hok f t m j)
theorem or_cp_okB {h : zz_H} {a : Nat} (hok : or_okB h a) (f t m : Nat) : or_okB (or_cp h a f t m) a := ⟨hok.1, fun i hi => by
  rw [or_cp_B hok.1]
  exact (or_cp_b hok.1 f t m i).trans (hok.2 i hi)⟩
theorem or_cp_s {h : zz_H} {a : Nat} (hok : or_okB h a) {f t m : Nat} (hf : f + m < or_s h a) : zz_sR (or_cp h a f t m) (or_n h a) (t + m) (some (or_B h a (f + m))) = or_cp h a f t (m + 1) := by
  rw [or_cp, or_rp_sR, or_cp]
  congr 1
  funext b j
  by_cases h1 : b = or_n h a ∧ j = t + m
  · rw [if_pos h1, if_pos ⟨h1.1, by omega, by omega⟩, ← hok.2 _ hf]
    congr 1
    omega
  · rw [if_neg h1]
    by_cases h2 : b = or_n h a ∧ t ≤ j ∧ j < t + m
    · rw [if_pos h2, if_pos ⟨h2.1, h2.2.1, by omega⟩]
    · rw [if_neg h2, if_neg (fun z => h2 ⟨z.1, z.2.1, by have := fun w => h1 ⟨z.1, w⟩; omega⟩)]
def or_in (h : zz_H) (a r i : Nat) : Prop := sg_at h (sg_lv h r) (or_B h a i) = some r
def or_ct (h : zz_H) (a f t m : Nat) : Prop := f + m ≤ or_s h a ∧ t + m ≤ or_s h a ∧ (∀ j, j < m → or_in h a (or_B h a f) (f + j)) ∧ (f + m < or_s h a → t + m < or_s h a → ¬ or_in h a (or_B h a f) (f + m))
def T_O_copyTree : zz_Tr := fun as h post => ∃ a f t, as = [zz_r 5 (some a), zz_i (nI f), zz_i (nI t)] ∧ f < or_s h a ∧ t ≤ or_s h a ∧ or_okB h a ∧ sg_wf h ∧ ∀ m, or_ct h a f t m → post (some (zz_i (nI (t + m)))) (or_cp h a f t m)
set_option maxRecDepth 100000 in
set_option maxHeartbeats 4000000 in
theorem m_O_copyTree (l : Launch) : zz_Met l y_O_copyTree w_O_copyTree { frames := 3, cells := 0, slots := 0, locals := 56 } T_O_copyTree := by
  refine zz_ofZ (by decide) (fun as h post hT => ?_) ?_
  · obtain ⟨a, f, t, rfl, hf, ht, hok, hwf, hp⟩ := hT
    exact ⟨by simp [zz_cat], by simp⟩
  · intro D DA h as post hT p e s m args below meth c Q C hr hlk hnm hQ
    obtain ⟨a, f, t, rfl, hf, ht, hok, hwf, hp⟩ := hT
    have hb := hok.1.2.2.2.2.2.1
    have lp13 : ∀ n u, or_s h a + 1 ≤ n + (f + u) → f + u ≤ or_s h a → t + u ≤ or_s h a → (∀ j, j < u → or_in h a (or_B h a f) (f + j)) → zz_Z p l e { frames := 3, cells := 0, slots := 0, locals := 56 } s m args below meth c Q D DA (zz_A h s.heap.size) h 6 13 [some (zz_r 5 (some a)), some (zz_i (nI f)), some (zz_i (nI t)), some (zz_r 2 (some (or_B h a f))), some (zz_i (nI (t + u))), some (zz_i (nI (f + u)))] [] (or_cp h a f t u) 0 0 := by
      intro n
      induction n with
      | zero =>
        intro i hni hi
        exact absurd hni (by omega)
      | succ n ih =>
        intro u hni hfm htm hall
        refine zz_iload (q := 15) (i := 5) C (by decide +kernel) rfl rfl ?_
        refine zz_aload_n (q := 16) (f := 0) (i := 0) C (by decide +kernel) rfl rfl rfl ?_
        refine zz_getI (q := 19) C gf_O_35 (by decide +kernel) rfl (by first | rfl | assumption) hok.1.2.2.2.2.2.2 ?_
        refine zz_icmp_ge (off := 49) (tgt := 68) (q := 22) C (by decide +kernel) (by decide) rfl (fun c19 => ?_) (fun c19 => ?_)
        · refine zz_iload (q := 70) (i := 4) C (by decide +kernel) rfl rfl ?_
          refine zz_iret C hr hlk (by decide +kernel) hQ (by decide) (by decide) ?_
          first
            | exact hp u ⟨hfm, htm, hall, fun z _ => absurd ((nI_leI (a := or_s h a) (b := f + u) (Nat.lt_of_le_of_lt hb (by decide)) (Nat.lt_of_le_of_lt (Nat.le_trans hfm hb) (by decide))).mp c19) (Nat.not_le_of_lt z)⟩
            | exact hp u ⟨hfm, htm, hall, fun _ z => absurd ((nI_leI (a := or_s h a) (b := t + u) (Nat.lt_of_le_of_lt hb (by decide)) (Nat.lt_of_le_of_lt (Nat.le_trans htm hb) (by decide))).mp c28) (Nat.not_le_of_lt z)⟩
            | exact hp u ⟨hfm, htm, hall, fun _ _ => zz_b_f c42⟩
        · have hi : f + u < or_s h a := Nat.lt_of_not_le (fun z => c19 (nI_le z (by omega)))
          refine zz_iload (q := 24) (i := 4) C (by decide +kernel) rfl rfl ?_
          refine zz_aload_n (q := 25) (f := 0) (i := 0) C (by decide +kernel) rfl rfl rfl ?_
          refine zz_getI (q := 28) C gf_O_35 (by decide +kernel) rfl (by first | rfl | assumption) hok.1.2.2.2.2.2.2 ?_
          refine zz_icmp_ge (off := 40) (tgt := 68) (q := 31) C (by decide +kernel) (by decide) rfl (fun c28 => ?_) (fun c28 => ?_)
          · refine zz_iload (q := 70) (i := 4) C (by decide +kernel) rfl rfl ?_
            refine zz_iret C hr hlk (by decide +kernel) hQ (by decide) (by decide) ?_
            first
              | exact hp u ⟨hfm, htm, hall, fun z _ => absurd ((nI_leI (a := or_s h a) (b := f + u) (Nat.lt_of_le_of_lt hb (by decide)) (Nat.lt_of_le_of_lt (Nat.le_trans hfm hb) (by decide))).mp c19) (Nat.not_le_of_lt z)⟩
              | exact hp u ⟨hfm, htm, hall, fun _ z => absurd ((nI_leI (a := or_s h a) (b := t + u) (Nat.lt_of_le_of_lt hb (by decide)) (Nat.lt_of_le_of_lt (Nat.le_trans htm hb) (by decide))).mp c28) (Nat.not_le_of_lt z)⟩
              | exact hp u ⟨hfm, htm, hall, fun _ _ => zz_b_f c42⟩
          · have hi2 : t + u < or_s h a := Nat.lt_of_not_le (fun z => c28 (nI_le z (by omega)))
            refine zz_aload_n (q := 32) (f := 0) (i := 0) C (by decide +kernel) rfl rfl rfl ?_
            refine zz_getR (q := 35) C gf_O_11 (by decide +kernel) rfl (by first | rfl | assumption) hok.1.1 ?_
            refine zz_iload (q := 37) (i := 5) C (by decide +kernel) rfl rfl ?_
            refine zz_aaload (q := 38) C 4 rfl (by decide) (by decide +kernel) rfl rfl hok.1.2.2.1 rfl (by have := hok.1.2.2.2.2.2.1; omega) (by decide) ((or_cp_b hok.1 f t u _).trans (hok.2 _ hi)) ?_
            refine zz_aload_n (q := 39) (f := 3) (i := 3) C (by decide +kernel) rfl rfl rfl ?_
            refine zz_callV (q := 42) C (m_S_isInTreeOf l) cv_O_86 (by decide +kernel) rfl rfl rfl (by first | rfl | assumption) (by decide) (by decide) (Nat.le_of_ble_eq_true rfl) ⟨_, _, rfl, sg_wf_rp _ hwf, ?_⟩
            refine zz_if_eq (off := 26) (tgt := 68) (q := 45) C (by decide +kernel) (by decide) rfl (fun c42 => ?_) (fun c42 => ?_)
            · refine zz_iload (q := 70) (i := 4) C (by decide +kernel) rfl rfl ?_
              refine zz_iret C hr hlk (by decide +kernel) hQ (by decide) (by decide) ?_
              first
                | exact hp u ⟨hfm, htm, hall, fun z _ => absurd ((nI_leI (a := or_s h a) (b := f + u) (Nat.lt_of_le_of_lt hb (by decide)) (Nat.lt_of_le_of_lt (Nat.le_trans hfm hb) (by decide))).mp c19) (Nat.not_le_of_lt z)⟩
                | exact hp u ⟨hfm, htm, hall, fun _ z => absurd ((nI_leI (a := or_s h a) (b := t + u) (Nat.lt_of_le_of_lt hb (by decide)) (Nat.lt_of_le_of_lt (Nat.le_trans htm hb) (by decide))).mp c28) (Nat.not_le_of_lt z)⟩
                | exact hp u ⟨hfm, htm, hall, fun _ _ => zz_b_f c42⟩
            · refine zz_aload_n (q := 46) (f := 0) (i := 0) C (by decide +kernel) rfl rfl rfl ?_
              refine zz_getR (q := 49) C gf_O_17 (by decide +kernel) rfl (by first | rfl | assumption) hok.1.2.1 ?_
              refine zz_iload (q := 51) (i := 4) C (by decide +kernel) rfl rfl ?_
              refine zz_aload_n (q := 52) (f := 0) (i := 0) C (by decide +kernel) rfl rfl rfl ?_
              refine zz_getR (q := 55) C gf_O_11 (by decide +kernel) rfl (by first | rfl | assumption) hok.1.1 ?_
              refine zz_iload (q := 57) (i := 5) C (by decide +kernel) rfl rfl ?_
              refine zz_aaload (q := 58) C 4 rfl (by decide) (by decide +kernel) rfl rfl hok.1.2.2.1 rfl (by have := hok.1.2.2.2.2.2.1; omega) (by decide) ((or_cp_b hok.1 f t u _).trans (hok.2 _ hi)) ?_
              refine zz_aastore (q := 59) C (ci := 2) 4 rfl rfl (by decide +kernel) rfl rfl hok.1.2.2.2.1 rfl (by omega) (by decide) ?_
              rw [or_cp_s hok hi]
              refine zz_iinc (q := 62) (i := 4) (n := 1) C (by decide +kernel) rfl rfl (nI_succ _).symm (by decide) rfl ?_
              refine zz_iinc (q := 65) (i := 5) (n := 1) C (by decide +kernel) rfl rfl (nI_succ _).symm (by decide) rfl ?_
              refine zz_goto (off := -52) (tgt := 13) C (by decide +kernel) (by decide) ?_
              -- AT 13
              refine ih (u + 1) (by omega) (by omega) (by omega) (fun j hj => ?_)
              rcases Nat.lt_succ_iff_lt_or_eq.mp hj with hj | rfl
              · exact hall j hj
              · exact zz_b_t c42
    refine zz_aload_n (q := 1) (f := 0) (i := 0) C (by decide +kernel) rfl rfl rfl ?_
    refine zz_getR (q := 4) C gf_O_11 (by decide +kernel) rfl (by first | rfl | assumption) hok.1.1 ?_
    refine zz_iload_n (q := 5) (f := 1) (i := 1) C (by decide +kernel) rfl rfl rfl ?_
    refine zz_aaload (q := 6) C 4 rfl (by decide) (by decide +kernel) rfl rfl hok.1.2.2.1 rfl (by have := hok.1.2.2.2.2.2.1; omega) (by decide) (hok.2 f hf) ?_
    refine zz_astore_n (q := 7) (f := 3) (i := 3) C (by decide +kernel) rfl rfl (by decide) rfl ?_
    refine zz_iload_n (q := 8) (f := 2) (i := 2) C (by decide +kernel) rfl rfl rfl ?_
    refine zz_istore (q := 10) (i := 4) C (by decide +kernel) rfl (by decide) rfl ?_
    refine zz_iload_n (q := 11) (f := 1) (i := 1) C (by decide +kernel) rfl rfl rfl ?_
    refine zz_istore (q := 13) (i := 5) C (by decide +kernel) rfl (by decide) rfl ?_
    -- AT 13
    have l9 := lp13 (or_s h a + 1) 0 (by omega) (by omega) (by omega) (fun j hj => absurd hj (by omega))
    rw [or_cp_0] at l9
    exact l9
end
section
/-! Order: the roots are arranged -/
def or_AR (a k : Nat) : Nat → Nat → Nat → zz_H → zz_H → Prop
  | 0, _, _, h, h2 => h2 = h
  | n + 1, to, root, h, h2 => (¬ root < or_s h a ∧ h2 = h) ∨ (root < or_s h a ∧ ∃ m, or_ct h a root to m ∧ or_AR a k n (to + m) (or_lr (or_cp h a root to m) a k (some (or_B h a root)) (or_s h a)) (or_cp h a root to m) h2)
/-- the first place at which a segment of the root kind stands, or the size -/
def or_to (h : zz_H) (a k to : Nat) : Prop := to ≤ or_s h a ∧ (∀ j, j < to → kd_root h 3 (sg_k h (or_B h a j)) ≠ k) ∧ (to < or_s h a → kd_root h 3 (sg_k h (or_B h a to)) = k)
def T_O_arrangeRoots : zz_Tr := fun as h post => ∃ a k, as = [zz_r 5 (some a), zz_r 1 (some k)] ∧ or_okB h a ∧ sg_wf h ∧ ∀ to h2, or_to h a k to → or_AR a k (or_s h a) to (or_lr h a k none (or_s h a)) h h2 → post none h2
set_option maxRecDepth 100000 in
set_option maxHeartbeats 4000000 in
theorem m_O_arrangeRoots (l : Launch) : zz_Met l y_O_arrangeRoots w_O_arrangeRoots { frames := 4, cells := 0, slots := 0, locals := 81 } T_O_arrangeRoots := by
  refine zz_ofZ (by decide) (fun as h post hT => ?_) ?_
  · obtain ⟨a, k, rfl, hok, hwf, hp⟩ := hT
    exact ⟨by simp [zz_cat], by simp⟩
  · intro D DA h as post hT p e s m args below meth c Q C hr hlk hnm hQ
    obtain ⟨a, k, rfl, hok, hwf, hp⟩ := hT
    refine zz_know (fun hty _ hTL _ => ?_)
    have hb := hok.1.2.2.2.2.2.1
    have lp42 : ∀ n i, or_s h a + 1 ≤ n + i → i ≤ or_s h a → ∀ to root h1, to ≤ or_s h a → root ≤ or_s h a → or_okB h1 a → sg_wf h1 → or_s h1 a = or_s h a → (∀ h2, or_AR a k (or_s h a - i) to root h1 h2 → post none h2) → zz_Z p l e { frames := 4, cells := 0, slots := 0, locals := 81 } s m args below meth c Q D DA (zz_A h s.heap.size) h 5 42 [some (zz_r 5 (some a)), some (zz_r 1 (some k)), some (zz_i (nI to)), some (zz_i (nI root)), some (zz_i (nI i))] [] h1 0 0 := by
      intro n
      induction n with
      | zero =>
        intro i hni hi
        exact absurd hni (by omega)
      | succ n ih =>
        intro i hni hile to root h1 hto hroot hok hwf hs1 hp
        rw [← hs1] at hni hile hto hroot hp ih
        have hb := hok.1.2.2.2.2.2.1
        refine zz_iload (q := 44) (i := 4) C (by decide +kernel) rfl rfl ?_
        refine zz_aload_n (q := 45) (f := 0) (i := 0) C (by decide +kernel) rfl rfl rfl ?_
        refine zz_getI (q := 48) C gf_O_35 (by decide +kernel) rfl (by first | rfl | assumption) hok.1.2.2.2.2.2.2 ?_
        refine zz_icmp_ge (off := 36) (tgt := 84) (q := 51) C (by decide +kernel) (by decide) rfl (fun c48 => ?_) (fun c48 => ?_)
        · refine zz_vret C hr hlk (by decide +kernel) hQ (by decide) (by decide) ?_
          first
            | (have he : or_s h1 a - i = 0 := by
                 have := ((nI_leI (a := or_s h1 a) (b := i) (by omega) (by omega)).mp c48)
                 omega
               rw [he] at hp
               exact hp h1 rfl)
            | (have he : or_s h1 a - i = (or_s h1 a - i - 1) + 1 := by omega
               rw [he] at hp
               exact hp h1 (Or.inl ⟨Nat.not_lt_of_le ((nI_leI (a := or_s h1 a) (b := root) (by omega) (by omega)).mp c56), rfl⟩))
        · have hi : i < or_s h1 a := Nat.lt_of_not_le (fun z => c48 (nI_le z (by omega)))
          refine zz_iload_n (q := 52) (f := 3) (i := 3) C (by decide +kernel) rfl rfl rfl ?_
          refine zz_aload_n (q := 53) (f := 0) (i := 0) C (by decide +kernel) rfl rfl rfl ?_
          refine zz_getI (q := 56) C gf_O_35 (by decide +kernel) rfl (by first | rfl | assumption) hok.1.2.2.2.2.2.2 ?_
          refine zz_icmp_ge (off := 28) (tgt := 84) (q := 59) C (by decide +kernel) (by decide) rfl (fun c56 => ?_) (fun c56 => ?_)
          · refine zz_vret C hr hlk (by decide +kernel) hQ (by decide) (by decide) ?_
            first
              | (have he : or_s h1 a - i = 0 := by
                   have := ((nI_leI (a := or_s h1 a) (b := i) (by omega) (by omega)).mp c48)
                   omega
                 rw [he] at hp
                 exact hp h1 rfl)
              | (have he : or_s h1 a - i = (or_s h1 a - i - 1) + 1 := by omega
                 rw [he] at hp
                 exact hp h1 (Or.inl ⟨Nat.not_lt_of_le ((nI_leI (a := or_s h1 a) (b := root) (by omega) (by omega)).mp c56), rfl⟩))
          · have hr9 : root < or_s h1 a := Nat.lt_of_not_le (fun z => c56 (nI_le z (by omega)))
            refine zz_aload_n (q := 60) (f := 0) (i := 0) C (by decide +kernel) rfl rfl rfl ?_
            refine zz_iload_n (q := 61) (f := 3) (i := 3) C (by decide +kernel) rfl rfl rfl ?_
            refine zz_iload_n (q := 62) (f := 2) (i := 2) C (by decide +kernel) rfl rfl rfl ?_
            refine zz_callV (q := 65) C (m_O_copyTree l) cv_O_124 (by decide +kernel) rfl rfl rfl (by first | rfl | assumption) (by decide) (by decide) (Nat.le_of_ble_eq_true rfl) ⟨_, _, _, rfl, hr9, hto, hok, hwf, fun u hm => ?_⟩
            have hok2 := or_cp_okB hok root to u
            have hwf2 : sg_wf (or_cp h1 a root to u) := sg_wf_rp _ hwf
            have hl2 := or_lr_le (or_cp h1 a root to u) a k (some (or_B h1 a root)) (or_s h1 a) (Nat.le_refl _)
            have hs2 : or_s (or_cp h1 a root to u) a = or_s h1 a := rfl
            refine zz_istore_n (q := 66) (f := 2) (i := 2) C (by decide +kernel) rfl rfl (by decide) rfl ?_
            refine zz_aload_n (q := 67) (f := 0) (i := 0) C (by decide +kernel) rfl rfl rfl ?_
            refine zz_aload_n (q := 68) (f := 1) (i := 1) C (by decide +kernel) rfl rfl rfl ?_
            refine zz_aload_n (q := 69) (f := 0) (i := 0) C (by decide +kernel) rfl rfl rfl ?_
            refine zz_getR (q := 72) C gf_O_11 (by decide +kernel) rfl (by first | rfl | assumption) hok.1.1 ?_
            refine zz_iload_n (q := 73) (f := 3) (i := 3) C (by decide +kernel) rfl rfl rfl ?_
            refine zz_aaload (q := 74) C 4 rfl (by decide) (by decide +kernel) rfl rfl hok.1.2.2.1 rfl (by have := hok.1.2.2.2.2.2.1; omega) (by decide) ((or_cp_b hok.1 root to u _).trans (hok.2 _ hr9)) ?_
            refine zz_callV (q := 77) C (m_O_leastRootAfter l) cv_O_120 (by decide +kernel) rfl rfl rfl (by first | rfl | assumption) (by decide) (by decide) (Nat.le_of_ble_eq_true rfl) ⟨_, _, _, rfl, hok2, hwf2, ?_⟩
            refine zz_istore_n (q := 78) (f := 3) (i := 3) C (by decide +kernel) rfl rfl (by decide) rfl ?_
            refine zz_iinc (q := 81) (i := 4) (n := 1) C (by decide +kernel) rfl rfl (nI_succ _).symm (by decide) rfl ?_
            refine zz_goto (off := -39) (tgt := 42) C (by decide +kernel) (by decide) ?_
            -- AT 42
            refine ih (i + 1) (by omega) (by omega) _ _ _ hm.2.1 (by rw [hs2] at hl2 ⊢; omega) hok2 hwf2 rfl (fun h2 hh => ?_)
            have he : or_s h1 a - i = (or_s h1 a - (i + 1)) + 1 := by omega
            rw [he] at hp
            exact hp h2 (Or.inr ⟨hr9, u, hm, hh⟩)
    have lp2 : ∀ n i, or_s h a + 1 ≤ n + i → i ≤ or_s h a → (∀ j, j < i → kd_root h 3 (sg_k h (or_B h a j)) ≠ k) → zz_Z p l e { frames := 4, cells := 0, slots := 0, locals := 81 } s m args below meth c Q D DA (zz_A h s.heap.size) h 5 2 [some (zz_r 5 (some a)), some (zz_r 1 (some k)), some (zz_i (nI i)), none, none] [] h 0 0 := by
      intro n
      induction n with
      | zero =>
        intro i hni hi
        exact absurd hni (by omega)
      | succ n ih =>
        intro i hni hile hall
        refine zz_iload_n (q := 3) (f := 2) (i := 2) C (by decide +kernel) rfl rfl rfl ?_
        refine zz_aload_n (q := 4) (f := 0) (i := 0) C (by decide +kernel) rfl rfl rfl ?_
        refine zz_getI (q := 7) C gf_O_35 (by decide +kernel) rfl (by first | rfl | assumption) hok.1.2.2.2.2.2.2 ?_
        refine zz_icmp_ge (off := 25) (tgt := 32) (q := 10) C (by decide +kernel) (by decide) rfl (fun c7 => ?_) (fun c7 => ?_)
        · refine zz_aload_n (q := 33) (f := 0) (i := 0) C (by decide +kernel) rfl rfl rfl ?_
          refine zz_aload_n (q := 34) (f := 1) (i := 1) C (by decide +kernel) rfl rfl rfl ?_
          refine zz_null (q := 35) C 2 (by decide +kernel) rfl ?_
          refine zz_callV (q := 38) C (m_O_leastRootAfter l) cv_O_120 (by decide +kernel) rfl rfl rfl (by first | rfl | assumption) (by decide) (by decide) (Nat.le_of_ble_eq_true rfl) ⟨_, _, _, rfl, hok, hwf, ?_⟩
          refine zz_istore_n (q := 39) (f := 3) (i := 3) C (by decide +kernel) rfl rfl (by decide) rfl ?_
          refine zz_iconst (q := 40) (n := 0) (x := 0) C (by decide +kernel) rfl (by decide +kernel) ?_
          refine zz_istore (q := 42) (i := 4) C (by decide +kernel) rfl (by decide) rfl ?_
          -- AT 42
          first
            | exact lp42 (or_s h a + 1) 0 (by omega) (by omega) i _ h hile (Or.elim (or_lr_le h a k none (or_s h a) (Nat.le_refl _)) Nat.le_of_eq Nat.le_of_lt) hok hwf rfl (fun h2 hh => hp i h2 ⟨hile, hall, fun z => absurd z (Nat.not_lt_of_le ((nI_leI (a := or_s h a) (b := i) (Nat.lt_of_le_of_lt hb (by decide)) (Nat.lt_of_le_of_lt (Nat.le_trans hile hb) (by decide))).mp c7))⟩ hh)
            | exact lp42 (or_s h a + 1) 0 (by omega) (by omega) i _ h hile (Or.elim (or_lr_le h a k none (or_s h a) (Nat.le_refl _)) Nat.le_of_eq Nat.le_of_lt) hok hwf rfl (fun h2 hh => hp i h2 ⟨hile, hall, fun _ => Option.some.inj c23⟩ hh)
        · have hi : i < or_s h a := Nat.lt_of_not_le (fun z => c7 (nI_le z (by omega)))
          obtain ⟨ns, hts⟩ := or_tagB hty hok hi
          have hos := hwf _ ns hts
          refine zz_aload_n (q := 11) (f := 0) (i := 0) C (by decide +kernel) rfl rfl rfl ?_
          refine zz_getR (q := 14) C gf_O_11 (by decide +kernel) rfl (by first | rfl | assumption) hok.1.1 ?_
          refine zz_iload_n (q := 15) (f := 2) (i := 2) C (by decide +kernel) rfl rfl rfl ?_
          refine zz_aaload (q := 16) C 4 rfl (by decide) (by decide +kernel) rfl rfl hok.1.2.2.1 rfl (by have := hok.1.2.2.2.2.2.1; omega) (by decide) (hok.2 i hi) ?_
          refine zz_getR (q := 19) C gf_O_50 (by decide +kernel) rfl (by first | rfl | assumption) hos.1 ?_
          refine zz_callV (q := 22) C (m_K_rootKind l) cv_O_101 (by decide +kernel) rfl rfl rfl (by first | rfl | assumption) (by decide) (by decide) (Nat.le_of_ble_eq_true rfl) ⟨_, rfl, ?_⟩
          refine zz_aload_n (q := 23) (f := 1) (i := 1) C (by decide +kernel) rfl rfl rfl ?_
          refine zz_acmp_eq (off := 9) (tgt := 32) (q := 26) C (by decide +kernel) (by decide) rfl (fun c23 => ?_) (fun c23 => ?_)
          · refine zz_aload_n (q := 33) (f := 0) (i := 0) C (by decide +kernel) rfl rfl rfl ?_
            refine zz_aload_n (q := 34) (f := 1) (i := 1) C (by decide +kernel) rfl rfl rfl ?_
            refine zz_null (q := 35) C 2 (by decide +kernel) rfl ?_
            refine zz_callV (q := 38) C (m_O_leastRootAfter l) cv_O_120 (by decide +kernel) rfl rfl rfl (by first | rfl | assumption) (by decide) (by decide) (Nat.le_of_ble_eq_true rfl) ⟨_, _, _, rfl, hok, hwf, ?_⟩
            refine zz_istore_n (q := 39) (f := 3) (i := 3) C (by decide +kernel) rfl rfl (by decide) rfl ?_
            refine zz_iconst (q := 40) (n := 0) (x := 0) C (by decide +kernel) rfl (by decide +kernel) ?_
            refine zz_istore (q := 42) (i := 4) C (by decide +kernel) rfl (by decide) rfl ?_
            -- AT 42
            first
              | exact lp42 (or_s h a + 1) 0 (by omega) (by omega) i _ h hile (Or.elim (or_lr_le h a k none (or_s h a) (Nat.le_refl _)) Nat.le_of_eq Nat.le_of_lt) hok hwf rfl (fun h2 hh => hp i h2 ⟨hile, hall, fun z => absurd z (Nat.not_lt_of_le ((nI_leI (a := or_s h a) (b := i) (Nat.lt_of_le_of_lt hb (by decide)) (Nat.lt_of_le_of_lt (Nat.le_trans hile hb) (by decide))).mp c7))⟩ hh)
              | exact lp42 (or_s h a + 1) 0 (by omega) (by omega) i _ h hile (Or.elim (or_lr_le h a k none (or_s h a) (Nat.le_refl _)) Nat.le_of_eq Nat.le_of_lt) hok hwf rfl (fun h2 hh => hp i h2 ⟨hile, hall, fun _ => Option.some.inj c23⟩ hh)
          · refine zz_iinc (q := 29) (i := 2) (n := 1) C (by decide +kernel) rfl rfl (nI_succ _).symm (by decide) rfl ?_
            refine zz_goto (off := -27) (tgt := 2) C (by decide +kernel) (by decide) ?_
            -- AT 2
            refine ih (i + 1) (by omega) (by omega) (fun j hj => ?_)
            rcases Nat.lt_succ_iff_lt_or_eq.mp hj with hj | rfl
            · exact hall j hj
            · exact fun z => c23 (congrArg some z)
    refine zz_iconst (q := 1) (n := 0) (x := 0) C (by decide +kernel) rfl (by decide +kernel) ?_
    refine zz_istore_n (q := 2) (f := 2) (i := 2) C (by decide +kernel) rfl rfl (by decide) rfl ?_
    -- AT 2
    exact lp2 (or_s h a + 1) 0 (by omega) (by omega) (fun j hj => absurd hj (by omega))
end
section
/-! Order: the values by the second order -/
def or_ry (h : zz_H) (y : Nat → Nat → Nat → Int32) : zz_H := (h.1, y, h.2.2.1, h.2.2.2.1, h.2.2.2.2.1, h.2.2.2.2.2)
/-- y is as before but for the values of segments -/
def or_vf (h : zz_H) (y : Nat → Nat → Nat → Int32) : Prop := (∀ c j b, ¬ (c = 2 ∧ (j = 5 ∨ j = 6)) → y c j b = zz_fI h c j b) ∧ ∀ b, y 2 5 b = 0 ∨ y 2 5 b = 1 ∨ y 2 5 b = zz_fI h 2 5 b
theorem or_vf_up {h : zz_H} {y : Nat → Nat → Nat → Int32} (hv : or_vf h y) (lv : Int32) : ∀ n a, sg_up (or_ry h y) lv n a = sg_up h lv n a
  | 0, a => rfl
  | n + 1, a => by
    have e : sg_lv (or_ry h y) a = sg_lv h a := hv.1 1 2 _ (by decide)
    rw [sg_up, sg_up, e]
    by_cases hl : sg_lv h a ≤ lv
    · rw [if_pos hl, if_pos hl]
    · rw [if_neg hl, if_neg hl]
      show (match zz_fR h 2 2 a with | none => a | some b => sg_up (or_ry h y) lv n b) = _
      cases zz_fR h 2 2 a with
      | none => rfl
      | some b => exact or_vf_up hv lv n b
theorem or_vf_lv {h : zz_H} {y : Nat → Nat → Nat → Int32} (hv : or_vf h y) (a : Nat) : sg_lv (or_ry h y) a = sg_lv h a := hv.1 1 2 _ (by decide)
theorem or_vf_at {h : zz_H} {y : Nat → Nat → Nat → Int32} (hv : or_vf h y) (lv : Int32) (a : Nat) : sg_at (or_ry h y) lv a = sg_at h lv a := by
  rw [sg_at, sg_at, or_vf_up hv, or_vf_lv hv]
theorem or_vf_wf {h : zz_H} {y : Nat → Nat → Nat → Int32} (hv : or_vf h y) (hw : sg_wf h) : sg_wf (or_ry h y) := fun a n ht => by
  obtain ⟨h1, h2, h3, h4⟩ := hw a n ht
  refine ⟨h1, h2, h3, ?_⟩
  show y 2 5 a = 0 ∨ y 2 5 a = 1
  rcases hv.2 a with h5 | h5 | h5
  · exact Or.inl h5
  · exact Or.inr h5
  · rw [h5]; exact h4
theorem or_vf_kw {h : zz_H} {y : Nat → Nat → Nat → Int32} (hv : or_vf h y) (hw : kd_wf h) : kd_wf (or_ry h y) := fun a n ht => by
  obtain ⟨h1, h2⟩ := hw a n ht
  have e1 : zz_fI (or_ry h y) 1 4 a = zz_fI h 1 4 a := hv.1 1 4 a (by decide)
  have e2 : zz_fI (or_ry h y) 1 3 a = zz_fI h 1 3 a := hv.1 1 3 a (by decide)
  exact ⟨by rw [e1]; exact h1, by rw [e2]; exact h2⟩
theorem or_vf_s {h : zz_H} {y : Nat → Nat → Nat → Int32} (hv : or_vf h y) (a : Nat) : or_s (or_ry h y) a = or_s h a := congrArg Int32.toNatClampNeg (hv.1 5 2 a (by decide))
theorem or_vf_ok {h : zz_H} {y : Nat → Nat → Nat → Int32} (hv : or_vf h y) {a : Nat} (hok : or_ok h a) : or_ok (or_ry h y) a := by
  have e : zz_fI (or_ry h y) 5 2 a = zz_fI h 5 2 a := hv.1 5 2 a (by decide)
  refine ⟨hok.1, hok.2.1, hok.2.2.1, hok.2.2.2.1, hok.2.2.2.2.1, ?_, ?_⟩
  · rw [or_vf_s hv]; exact hok.2.2.2.2.2.1
  · rw [or_vf_s hv, e]; exact hok.2.2.2.2.2.2
theorem or_vf_okB {h : zz_H} {y : Nat → Nat → Nat → Int32} (hv : or_vf h y) {a : Nat} (hok : or_okB h a) : or_okB (or_ry h y) a := ⟨or_vf_ok hv hok.1, fun i hi => hok.2 i (by rw [or_vf_s hv] at hi; exact hi)⟩
theorem or_vf_rt {h : zz_H} {y : Nat → Nat → Nat → Int32} : ∀ n k, kd_root (or_ry h y) n k = kd_root h n k
  | 0, _ => rfl
  | n + 1, k => by
    show (match zz_fR h 1 1 k with | none => k | some b => kd_root (or_ry h y) n b) = (match zz_fR h 1 1 k with | none => k | some b => kd_root h n b)
    cases zz_fR h 1 1 k with
    | none => rfl
    | some b => exact or_vf_rt n b
/-- the segment at j offers its word to b -/
def or_of (h : zz_H) (a j b : Nat) : Prop := zz_fR h 2 1 (or_B h a j) = zz_fR h 5 3 a ∧ sg_at h 1 (or_B h a j) = some b
def or_ow (h : zz_H) (a sw j : Nat) : Int32 := zz_aI h (sg_w h (or_B h a j)) sw
def or_vl (h : zz_H) (a sw i : Nat) (y : Nat → Nat → Nat → Int32) : Prop := or_vf h y ∧ ∀ p, p < or_s h a →
  ((∀ j, j < i → ¬ or_of h a j (or_B h a p)) → y 2 5 (or_B h a p) = 0) ∧
  (∀ j, j < i → or_of h a j (or_B h a p) → y 2 5 (or_B h a p) = 1 ∧ y 2 6 (or_B h a p) ≤ or_ow h a sw j) ∧
  (y 2 5 (or_B h a p) = 1 → ∃ j, j < i ∧ or_of h a j (or_B h a p) ∧ y 2 6 (or_B h a p) = or_ow h a sw j)
def or_y2 (y : Nat → Nat → Nat → Int32) (b : Nat) (u v : Int32) : Nat → Nat → Nat → Int32 := fun c j d => if c = 2 ∧ j = 6 ∧ d = b then v else if c = 2 ∧ j = 5 ∧ d = b then u else y c j d
theorem or_y2_5 (y : Nat → Nat → Nat → Int32) (b : Nat) (u v : Int32) (d : Nat) : or_y2 y b u v 2 5 d = if d = b then u else y 2 5 d := by
  rw [or_y2, if_neg (fun z => by have := z.2.1; omega)]
  by_cases hd : d = b
  · rw [if_pos ⟨rfl, rfl, hd⟩, if_pos hd]
  · rw [if_neg (fun z => hd z.2.2), if_neg hd]
theorem or_y2_6 (y : Nat → Nat → Nat → Int32) (b : Nat) (u v : Int32) (d : Nat) : or_y2 y b u v 2 6 d = if d = b then v else y 2 6 d := by
  rw [or_y2]
  by_cases hd : d = b
  · rw [if_pos ⟨rfl, rfl, hd⟩, if_pos hd]
  · rw [if_neg (fun z => hd z.2.2), if_neg (fun z => by have := z.2.1; omega), if_neg hd]
theorem or_vf_2 {h : zz_H} {y : Nat → Nat → Nat → Int32} (hv : or_vf h y) (b : Nat) {u : Int32} (hu : u = 0 ∨ u = 1) (v : Int32) : or_vf h (or_y2 y b u v) := by
  refine ⟨fun c j d hn => ?_, fun d => ?_⟩
  · rw [or_y2, if_neg (fun z => hn ⟨z.1, Or.inr z.2.1⟩), if_neg (fun z => hn ⟨z.1, Or.inl z.2.1⟩)]
    exact hv.1 c j d hn
  · rw [or_y2_5]
    split
    · rcases hu with h1 | h1
      · exact Or.inl h1
      · exact Or.inr (Or.inl h1)
    · exact hv.2 d
theorem or_ry_2 (h : zz_H) (y : Nat → Nat → Nat → Int32) (b : Nat) (u v : Int32) : zz_pI (zz_pI (or_ry h y) 2 5 b u) 2 6 b v = or_ry h (or_y2 y b u v) := rfl
theorem or_vl_no {h : zz_H} {a sw i : Nat} {y : Nat → Nat → Nat → Int32} (hv : or_vl h a sw i y) (hn : ∀ b, ¬ or_of h a i b) : or_vl h a sw (i + 1) y := by
  refine ⟨hv.1, fun p hp => ?_⟩
  obtain ⟨h1, h2, h3⟩ := hv.2 p hp
  refine ⟨fun hz => h1 (fun j hj => hz j (by omega)), fun j hj hz => ?_, fun hz => ?_⟩
  · rcases Nat.lt_succ_iff_lt_or_eq.mp hj with hj | rfl
    · exact h2 j hj hz
    · exact absurd hz (hn _)
  · obtain ⟨j, h4, h5⟩ := h3 hz
    exact ⟨j, by omega, h5⟩
theorem or_vl_off {h : zz_H} {a sw i b : Nat} {y : Nat → Nat → Nat → Int32} (hv : or_vl h a sw i y) (hb : or_of h a i b) : ∃ y', (if y 2 5 b = 0 ∨ or_ow h a sw i < y 2 6 b then or_ry h (or_y2 y b 1 (or_ow h a sw i)) else or_ry h y) = or_ry h y' ∧ or_vl h a sw (i + 1) y' := by
  by_cases hc : y 2 5 b = 0 ∨ or_ow h a sw i < y 2 6 b
  · refine ⟨or_y2 y b 1 (or_ow h a sw i), by rw [if_pos hc], or_vf_2 hv.1 b (Or.inr rfl) _, fun p hp => ?_⟩
    obtain ⟨h1, h2, h3⟩ := hv.2 p hp
    rw [or_y2_5, or_y2_6]
    by_cases hbp : or_B h a p = b
    · rw [if_pos hbp, if_pos hbp]
      refine ⟨fun hz => absurd (hbp ▸ hb) (hz i (by omega)), fun j hj hz => ⟨rfl, ?_⟩, fun _ => ⟨i, by omega, hbp ▸ hb, rfl⟩⟩
      rcases Nat.lt_succ_iff_lt_or_eq.mp hj with hj | rfl
      · obtain ⟨h4, h5⟩ := h2 j hj hz
        rw [hbp] at h4 h5
        rcases hc with hc | hc
        · rw [hc] at h4; exact absurd h4 (by decide)
        · exact Int32.le_trans (Int32.le_of_lt hc) h5
      · exact Int32.le_refl _
    · rw [if_neg hbp, if_neg hbp]
      refine ⟨fun hz => h1 (fun j hj => hz j (by omega)), fun j hj hz => ?_, fun hz => ?_⟩
      · rcases Nat.lt_succ_iff_lt_or_eq.mp hj with hj | rfl
        · exact h2 j hj hz
        · exact absurd (Option.some.inj (hz.2.symm.trans hb.2)) hbp
      · obtain ⟨j, h4, h5⟩ := h3 hz
        exact ⟨j, by omega, h5⟩
  · refine ⟨y, by rw [if_neg hc], hv.1, fun p hp => ?_⟩
    obtain ⟨h1, h2, h3⟩ := hv.2 p hp
    have hc1 : ¬ y 2 5 b = 0 := fun z => hc (Or.inl z)
    have hc2 : ¬ or_ow h a sw i < y 2 6 b := fun z => hc (Or.inr z)
    refine ⟨fun hz => h1 (fun j hj => hz j (by omega)), fun j hj hz => ?_, fun hz => ?_⟩
    · rcases Nat.lt_succ_iff_lt_or_eq.mp hj with hj | rfl
      · exact h2 j hj hz
      · have hbp : or_B h a p = b := Option.some.inj (hz.2.symm.trans hb.2)
        rw [hbp] at h1 h2 ⊢
        refine ⟨?_, Int32.not_lt.mp hc2⟩
        by_cases hex : ∃ i, i < j ∧ or_of h a i b
        · obtain ⟨i, h4, h5⟩ := hex
          exact (h2 i h4 h5).1
        · exact absurd (h1 (fun i h4 h5 => hex ⟨i, h4, h5⟩)) hc1
    · obtain ⟨j, h4, h5⟩ := h3 hz
      exact ⟨j, by omega, h5⟩
def T_O_findValues : zz_Tr := fun as h post => ∃ a sw, as = [zz_r 5 (some a)] ∧ sw < 4 ∧ zz_fI h 5 4 a = nI sw ∧ or_okB h a ∧ sg_wf h ∧ ∀ y, or_vl h a sw (or_s h a) y → post none (or_ry h y)
set_option maxRecDepth 100000 in
set_option maxHeartbeats 4000000 in
theorem m_O_findValues (l : Launch) : zz_Met l y_O_findValues w_O_findValues { frames := 2, cells := 0, slots := 0, locals := 35 } T_O_findValues := by
  refine zz_ofZ (by decide) (fun as h post hT => ?_) ?_
  · obtain ⟨a, sw, rfl, hsw, hse, hok, hwf, hp⟩ := hT
    exact ⟨by simp [zz_cat], by simp⟩
  · intro D DA h as post hT p e s m args below meth c Q C hr hlk hnm hQ
    obtain ⟨a, sw, rfl, hsw, hse, hok, hwf, hp⟩ := hT
    refine zz_know (fun hty _ hTL _ => ?_)
    have hb := hok.1.2.2.2.2.2.1
    have lp27 : ∀ n i, or_s h a + 1 ≤ n + i → i ≤ or_s h a → ∀ v8 v9 y, or_vl h a sw i y → zz_Z p l e { frames := 2, cells := 0, slots := 0, locals := 35 } s m args below meth c Q D DA (zz_A h s.heap.size) h 4 27 [some (zz_r 5 (some a)), some (zz_i (nI i)), v8, v9] [] (or_ry h y) 0 0 := by
      intro n
      induction n with
      | zero =>
        intro i hni hi
        exact absurd hni (by omega)
      | succ n ih =>
        intro i hni hile v8 v9 y hv
        refine zz_iload_n (q := 28) (f := 1) (i := 1) C (by decide +kernel) rfl rfl rfl ?_
        refine zz_aload_n (q := 29) (f := 0) (i := 0) C (by decide +kernel) rfl rfl rfl ?_
        refine zz_getI (q := 32) C gf_O_35 (by decide +kernel) rfl (by first | rfl | assumption) ((hv.1.1 5 2 a (by decide)).trans hok.1.2.2.2.2.2.2) ?_
        refine zz_icmp_ge (off := 50) (tgt := 82) (q := 35) C (by decide +kernel) (by decide) rfl (fun c32 => ?_) (fun c32 => ?_)
        · refine zz_vret C hr hlk (by decide +kernel) hQ (by decide) (by decide) ?_
          have he : i = or_s h a := by
            have := ((nI_leI (a := or_s h a) (b := i) (by omega) (by omega)).mp c32)
            omega
          exact hp y (he ▸ hv)
        · have hi : i < or_s h a := Nat.lt_of_not_le (fun z => c32 (nI_le z (by omega)))
          obtain ⟨ns, hts⟩ := or_tagB hty hok hi
          have hos := hwf _ ns hts
          refine zz_aload_n (q := 36) (f := 0) (i := 0) C (by decide +kernel) rfl rfl rfl ?_
          refine zz_getR (q := 39) C gf_O_11 (by decide +kernel) rfl (by first | rfl | assumption) hok.1.1 ?_
          refine zz_iload_n (q := 40) (f := 1) (i := 1) C (by decide +kernel) rfl rfl rfl ?_
          refine zz_aaload (q := 41) C 4 rfl (by decide) (by decide +kernel) rfl rfl hok.1.2.2.1 rfl (by have := hok.1.2.2.2.2.2.1; omega) (by decide) (hok.2 i hi) ?_
          refine zz_astore_n (q := 42) (f := 2) (i := 2) C (by decide +kernel) rfl rfl (by decide) rfl ?_
          refine zz_aload_n (q := 43) (f := 2) (i := 2) C (by decide +kernel) rfl rfl rfl ?_
          refine zz_iconst (q := 44) (n := 1) (x := 1) C (by decide +kernel) rfl (by decide +kernel) ?_
          refine zz_callV (q := 47) C (m_S_atLevel l) cv_O_112 (by decide +kernel) rfl rfl rfl (by first | rfl | assumption) (by decide) (by decide) (Nat.le_of_ble_eq_true rfl) ⟨_, _, rfl, or_vf_wf hv.1 hwf, ?_⟩
          rw [or_vf_at hv.1]
          refine zz_astore_n (q := 48) (f := 3) (i := 3) C (by decide +kernel) rfl rfl (by decide) rfl ?_
          refine zz_aload_n (q := 49) (f := 2) (i := 2) C (by decide +kernel) rfl rfl rfl ?_
          refine zz_getR (q := 52) C gf_O_50 (by decide +kernel) rfl (by first | rfl | assumption) rfl ?_
          refine zz_aload_n (q := 53) (f := 0) (i := 0) C (by decide +kernel) rfl rfl rfl ?_
          refine zz_getR (q := 56) C gf_O_20 (by decide +kernel) rfl (by first | rfl | assumption) rfl ?_
          refine zz_acmp_ne (off := 20) (tgt := 76) (q := 59) C (by decide +kernel) (by decide) rfl (fun c56 => ?_) (fun c56 => ?_)
          · refine zz_iinc (q := 79) (i := 1) (n := 1) C (by decide +kernel) rfl rfl (nI_succ _).symm (by decide) rfl ?_
            refine zz_goto (off := -52) (tgt := 27) C (by decide +kernel) (by decide) ?_
            -- AT 27
            first
              | exact ih (i + 1) (by omega) (by omega) _ _ _ hv9
              | exact ih (i + 1) (by omega) (by omega) _ _ _ (or_vl_no hv (fun b z => c56 z.1))
              | exact ih (i + 1) (by omega) (by omega) _ _ _ (or_vl_no hv (fun b z => absurd (z.2.symm.trans c60) (Option.some_ne_none _)))
          · refine zz_aload_n (q := 60) (f := 3) (i := 3) C (by decide +kernel) rfl rfl rfl ?_
            refine zz_ifnull (off := 16) (tgt := 76) (q := 63) C (by decide +kernel) (by decide) rfl (fun c60 => ?_) (fun a60 c60 => ?_)
            · refine zz_iinc (q := 79) (i := 1) (n := 1) C (by decide +kernel) rfl rfl (nI_succ _).symm (by decide) rfl ?_
              refine zz_goto (off := -52) (tgt := 27) C (by decide +kernel) (by decide) ?_
              -- AT 27
              first
                | exact ih (i + 1) (by omega) (by omega) _ _ _ hv9
                | exact ih (i + 1) (by omega) (by omega) _ _ _ (or_vl_no hv (fun b z => c56 z.1))
                | exact ih (i + 1) (by omega) (by omega) _ _ _ (or_vl_no hv (fun b z => absurd (z.2.symm.trans c60) (Option.some_ne_none _)))
            · refine zz_aload_n (q := 64) (f := 3) (i := 3) C (by decide +kernel) rfl rfl rfl ?_
              refine zz_aload_n (q := 65) (f := 2) (i := 2) C (by decide +kernel) rfl rfl rfl ?_
              refine zz_getR (q := 68) C gf_O_75 (by decide +kernel) rfl (by first | rfl | assumption) hos.2.1 ?_
              refine zz_aload_n (q := 69) (f := 0) (i := 0) C (by decide +kernel) rfl rfl rfl ?_
              refine zz_getI (q := 72) C gf_O_24 (by decide +kernel) rfl (by first | rfl | assumption) ((hv.1.1 5 4 a (by decide)).trans hse) ?_
              refine zz_iaload (q := 73) C (by decide +kernel) rfl rfl hos.2.2.1 rfl hsw (by decide) rfl ?_
              refine zz_callV (q := 76) C (m_S_offerValue l) cv_O_116 (by decide +kernel) rfl rfl rfl (by first | rfl | assumption) (by decide) (by decide) (Nat.le_of_ble_eq_true rfl) ⟨_, _, rfl, ?_⟩
              rw [or_ry_2]
              obtain ⟨y9, hy9, hv9⟩ := or_vl_off hv ⟨c56, c60⟩
              rw [show (if zz_fI (or_ry h y) 2 5 a60 = 0 ∨ zz_aI (or_ry h y) (sg_w h (or_B h a i)) sw < zz_fI (or_ry h y) 2 6 a60 then or_ry h (or_y2 y a60 1 (zz_aI (or_ry h y) (sg_w h (or_B h a i)) sw)) else or_ry h y) = or_ry h y9 from hy9]
              refine zz_iinc (q := 79) (i := 1) (n := 1) C (by decide +kernel) rfl rfl (nI_succ _).symm (by decide) rfl ?_
              refine zz_goto (off := -52) (tgt := 27) C (by decide +kernel) (by decide) ?_
              -- AT 27
              first
                | exact ih (i + 1) (by omega) (by omega) _ _ _ hv9
                | exact ih (i + 1) (by omega) (by omega) _ _ _ (or_vl_no hv (fun b z => c56 z.1))
                | exact ih (i + 1) (by omega) (by omega) _ _ _ (or_vl_no hv (fun b z => absurd (z.2.symm.trans c60) (Option.some_ne_none _)))
    have lp2 : ∀ n i, or_s h a + 1 ≤ n + i → i ≤ or_s h a → ∀ y, or_vf h y → (∀ j, j < i → y 2 5 (or_B h a j) = 0) → zz_Z p l e { frames := 2, cells := 0, slots := 0, locals := 35 } s m args below meth c Q D DA (zz_A h s.heap.size) h 4 2 [some (zz_r 5 (some a)), some (zz_i (nI i)), none, none] [] (or_ry h y) 0 0 := by
      intro n
      induction n with
      | zero =>
        intro i hni hi
        exact absurd hni (by omega)
      | succ n ih =>
        intro i hni hile y hv hall
        refine zz_iload_n (q := 3) (f := 1) (i := 1) C (by decide +kernel) rfl rfl rfl ?_
        refine zz_aload_n (q := 4) (f := 0) (i := 0) C (by decide +kernel) rfl rfl rfl ?_
        refine zz_getI (q := 7) C gf_O_35 (by decide +kernel) rfl (by first | rfl | assumption) ((hv.1 5 2 a (by decide)).trans hok.1.2.2.2.2.2.2) ?_
        refine zz_icmp_ge (off := 18) (tgt := 25) (q := 10) C (by decide +kernel) (by decide) rfl (fun c7 => ?_) (fun c7 => ?_)
        · refine zz_iconst (q := 26) (n := 0) (x := 0) C (by decide +kernel) rfl (by decide +kernel) ?_
          refine zz_istore_n (q := 27) (f := 1) (i := 1) C (by decide +kernel) rfl rfl (by decide) rfl ?_
          -- AT 27
          have he : i = or_s h a := by
            have := ((nI_leI (a := or_s h a) (b := i) (by omega) (by omega)).mp c7)
            omega
          exact lp27 (or_s h a + 1) 0 (by omega) (by omega) _ _ y ⟨hv, fun p hp9 => ⟨fun _ => hall p (he ▸ hp9), fun j hj => absurd hj (by omega), fun z => absurd ((hall p (he ▸ hp9)).symm.trans z) (by decide)⟩⟩
        · have hi : i < or_s h a := Nat.lt_of_not_le (fun z => c7 (nI_le z (by omega)))
          refine zz_aload_n (q := 11) (f := 0) (i := 0) C (by decide +kernel) rfl rfl rfl ?_
          refine zz_getR (q := 14) C gf_O_11 (by decide +kernel) rfl (by first | rfl | assumption) hok.1.1 ?_
          refine zz_iload_n (q := 15) (f := 1) (i := 1) C (by decide +kernel) rfl rfl rfl ?_
          refine zz_aaload (q := 16) C 4 rfl (by decide) (by decide +kernel) rfl rfl hok.1.2.2.1 rfl (by have := hok.1.2.2.2.2.2.1; omega) (by decide) (hok.2 i hi) ?_
          refine zz_callV (q := 19) C (m_S_clearValue l) cv_O_109 (by decide +kernel) rfl rfl rfl (by first | rfl | assumption) (by decide) (by decide) (Nat.le_of_ble_eq_true rfl) ⟨_, rfl, ?_⟩
          refine zz_iinc (q := 22) (i := 1) (n := 1) C (by decide +kernel) rfl rfl (nI_succ _).symm (by decide) rfl ?_
          refine zz_goto (off := -20) (tgt := 2) C (by decide +kernel) (by decide) ?_
          -- AT 2
          refine ih (i + 1) (by omega) (by omega) (or_y2 y (or_B h a i) 0 0) (or_vf_2 hv _ (Or.inl rfl) 0) (fun j hj => ?_)
          rw [or_y2_5]
          rcases Nat.lt_succ_iff_lt_or_eq.mp hj with hj | rfl
          · rw [hall j hj]; exact ite_self 0
          · exact if_pos rfl
    refine zz_iconst (q := 1) (n := 0) (x := 0) C (by decide +kernel) rfl (by decide +kernel) ?_
    refine zz_istore_n (q := 2) (f := 1) (i := 1) C (by decide +kernel) rfl rfl (by decide) rfl ?_
    -- AT 2
    exact lp2 (or_s h a + 1) 0 (by omega) (by omega) (zz_fI h) ⟨fun _ _ _ _ => rfl, fun b => Or.inr (Or.inr rfl)⟩ (fun j hj => absurd hj (by omega))
end
section
/-! Order: the order there is now -/
def or_cy (h : zz_H) (a : Nat) : zz_H := zz_uR h (or_n h a) (fun j => if j < or_s h a then zz_aR h (or_b h a) j else zz_aR h (or_n h a) j)
theorem or_cy_b {h : zz_H} {a : Nat} (hok : or_ok h a) (j : Nat) : zz_aR (or_cy h a) (or_b h a) j = zz_aR h (or_b h a) j := by
  rw [or_cy, zz_aR_uR, if_neg hok.2.2.2.2.1]
theorem or_cy_B {h : zz_H} {a : Nat} (hok : or_ok h a) (j : Nat) : or_B (or_cy h a) a j = or_B h a j := congrArg (fun z => z.getD 0) (or_cy_b hok j)
theorem or_cy_okB {h : zz_H} {a : Nat} (hok : or_okB h a) : or_okB (or_cy h a) a := ⟨hok.1, fun i hi => by
  rw [or_cy_B hok.1]
  exact (or_cy_b hok.1 i).trans (hok.2 i hi)⟩
theorem or_cy_wf {h : zz_H} {a : Nat} (hw : sg_wf h) : sg_wf (or_cy h a) := hw
def or_arr (h : zz_H) (a : Nat) (h2 : zz_H) : Prop := ((zz_fI h 5 5 a = 0 ∨ zz_fR h 5 3 a = none) ∧ h2 = or_cy h a) ∨ (zz_fI h 5 5 a ≠ 0 ∧ ∃ k sw y to, zz_fR h 5 3 a = some k ∧ sw < 4 ∧ zz_fI h 5 4 a = nI sw ∧ or_vl (or_cy h a) a sw (or_s h a) y ∧ or_to (or_ry (or_cy h a) y) a (kd_root h 3 k) to ∧ or_AR a (kd_root h 3 k) (or_s h a) to (or_lr (or_ry (or_cy h a) y) a (kd_root h 3 k) none (or_s h a)) (or_ry (or_cy h a) y) h2)
def or_sw (h : zz_H) (a : Nat) : Prop := ∀ k, zz_fR h 5 3 a = some k → ∃ sw, sw < 4 ∧ zz_fI h 5 4 a = nI sw
def T_O_arrange : zz_Tr := fun as h post => ∃ a, as = [zz_r 5 (some a)] ∧ or_okB h a ∧ sg_wf h ∧ or_sw h a ∧ ∀ h2, or_arr h a h2 → post none h2
set_option maxRecDepth 100000 in
set_option maxHeartbeats 4000000 in
theorem m_O_arrange (l : Launch) : zz_Met l y_O_arrange w_O_arrange { frames := 5, cells := 0, slots := 0, locals := 105 } T_O_arrange := by
  refine zz_ofZ (by decide) (fun as h post hT => ?_) ?_
  · obtain ⟨a, rfl, hok, hwf, hsw, hp⟩ := hT
    exact ⟨by simp [zz_cat], by simp⟩
  · intro D DA h as post hT p e s m args below meth c Q C hr hlk hnm hQ
    obtain ⟨a, rfl, hok, hwf, hsw, hp⟩ := hT
    have hb := hok.1.2.2.2.2.2.1
    refine zz_aload_n (q := 1) (f := 0) (i := 0) C (by decide +kernel) rfl rfl rfl ?_
    refine zz_getR (q := 4) C gf_O_11 (by decide +kernel) rfl (by first | rfl | assumption) hok.1.1 ?_
    refine zz_iconst (q := 5) (n := 0) (x := 0) C (by decide +kernel) rfl (by decide +kernel) ?_
    refine zz_aload_n (q := 6) (f := 0) (i := 0) C (by decide +kernel) rfl rfl rfl ?_
    refine zz_getR (q := 9) C gf_O_17 (by decide +kernel) rfl (by first | rfl | assumption) hok.1.2.1 ?_
    refine zz_iconst (q := 10) (n := 0) (x := 0) C (by decide +kernel) rfl (by decide +kernel) ?_
    refine zz_aload_n (q := 11) (f := 0) (i := 0) C (by decide +kernel) rfl rfl rfl ?_
    refine zz_getI (q := 14) C gf_O_35 (by decide +kernel) rfl (by first | rfl | assumption) hok.1.2.2.2.2.2.2 ?_
    refine zz_copyR (q := 17) (ci := 2) (k := or_s h a) C 4 rfl rfl al_O_92 zw_an zw_as zw_ai (by decide +kernel) rfl rfl rfl hok.1.2.2.1 hok.1.2.2.2.1 rfl hb hb (by omega) (by decide) (by decide +kernel) ?_
    show zz_Z p l e _ s m args below meth c Q D DA (zz_A h s.heap.size) h _ _ _ _ (or_cy h a) 0 0
    refine zz_aload_n (q := 18) (f := 0) (i := 0) C (by decide +kernel) rfl rfl rfl ?_
    refine zz_getI (q := 21) C gf_O_28 (by decide +kernel) rfl (by first | rfl | assumption) rfl ?_
    refine zz_if_eq (off := 25) (tgt := 46) (q := 24) C (by decide +kernel) (by decide) rfl (fun c21 => ?_) (fun c21 => ?_)
    · refine zz_vret C hr hlk (by decide +kernel) hQ (by decide) (by decide) ?_
      first
        | exact hp _ (Or.inl ⟨Or.inl c21, rfl⟩)
        | exact hp _ (Or.inl ⟨Or.inr c28, rfl⟩)
        | exact hp _ (Or.inr ⟨c21, a28, sw, y, to, c28, hs1, hs2, hv, hto, har⟩)
    · refine zz_aload_n (q := 25) (f := 0) (i := 0) C (by decide +kernel) rfl rfl rfl ?_
      refine zz_getR (q := 28) C gf_O_20 (by decide +kernel) rfl (by first | rfl | assumption) rfl ?_
      refine zz_ifnull (off := 18) (tgt := 46) (q := 31) C (by decide +kernel) (by decide) rfl (fun c28 => ?_) (fun a28 c28 => ?_)
      · refine zz_vret C hr hlk (by decide +kernel) hQ (by decide) (by decide) ?_
        first
          | exact hp _ (Or.inl ⟨Or.inl c21, rfl⟩)
          | exact hp _ (Or.inl ⟨Or.inr c28, rfl⟩)
          | exact hp _ (Or.inr ⟨c21, a28, sw, y, to, c28, hs1, hs2, hv, hto, har⟩)
      · obtain ⟨sw, hs1, hs2⟩ := hsw _ c28
        refine zz_aload_n (q := 32) (f := 0) (i := 0) C (by decide +kernel) rfl rfl rfl ?_
        refine zz_callV (q := 35) C (m_O_findValues l) cv_O_98 (by decide +kernel) rfl rfl rfl (by first | rfl | assumption) (by decide) (by decide) (Nat.le_of_ble_eq_true rfl) ⟨_, sw, rfl, hs1, hs2, or_cy_okB hok, or_cy_wf hwf, fun y hv => ?_⟩
        refine zz_aload_n (q := 36) (f := 0) (i := 0) C (by decide +kernel) rfl rfl rfl ?_
        refine zz_aload_n (q := 37) (f := 0) (i := 0) C (by decide +kernel) rfl rfl rfl ?_
        refine zz_getR (q := 40) C gf_O_20 (by decide +kernel) rfl (by first | rfl | assumption) c28 ?_
        refine zz_callV (q := 43) C (m_K_rootKind l) cv_O_101 (by decide +kernel) rfl rfl rfl (by first | rfl | assumption) (by decide) (by decide) (Nat.le_of_ble_eq_true rfl) ⟨_, rfl, ?_⟩
        rw [show kd_root (or_ry (or_cy h a) y) 3 a28 = kd_root h 3 a28 from or_vf_rt 3 a28]
        refine zz_callV (q := 46) C (m_O_arrangeRoots l) cv_O_105 (by decide +kernel) rfl rfl rfl (by first | rfl | assumption) (by decide) (by decide) (Nat.le_of_ble_eq_true rfl) ⟨_, _, rfl, or_vf_okB hv.1 (or_cy_okB hok), or_vf_wf hv.1 (or_cy_wf hwf), fun to h2 hto har => ?_⟩
        rw [show or_s (or_ry (or_cy h a) y) a = or_s h a from or_vf_s hv.1 a] at har
        refine zz_vret C hr hlk (by decide +kernel) hQ (by decide) (by decide) ?_
        first
          | exact hp _ (Or.inl ⟨Or.inl c21, rfl⟩)
          | exact hp _ (Or.inl ⟨Or.inr c28, rfl⟩)
          | exact hp _ (Or.inr ⟨c21, a28, sw, y, to, c28, hs1, hs2, hv, hto, har⟩)

def T_O_turnSecond : zz_Tr := fun as h post => ∃ a on, as = [zz_r 5 (some a), zz_i on] ∧ (on = 0 ∨ on = 1) ∧ or_okB h a ∧ sg_wf h ∧ or_sw h a ∧ ∀ h2, or_arr (zz_pI h 5 5 a on) a h2 → post none h2
set_option maxRecDepth 100000 in
set_option maxHeartbeats 4000000 in
theorem m_O_turnSecond (l : Launch) : zz_Met l y_O_turnSecond w_O_turnSecond { frames := 6, cells := 0, slots := 0, locals := 125 } T_O_turnSecond := by
  refine zz_ofZ (by decide) (fun as h post hT => ?_) ?_
  · obtain ⟨a, on, rfl, hon, hok, hwf, hsw, hp⟩ := hT
    exact ⟨by simp [zz_cat], by simp⟩
  · intro D DA h as post hT p e s m args below meth c Q C hr hlk hnm hQ
    obtain ⟨a, on, rfl, hon, hok, hwf, hsw, hp⟩ := hT
    refine zz_aload_n (q := 1) (f := 0) (i := 0) C (by decide +kernel) rfl rfl rfl ?_
    refine zz_iload_n (q := 2) (f := 1) (i := 1) C (by decide +kernel) rfl rfl rfl ?_
    refine zz_putI (q := 5) C gf_O_28 (fun h => by cases h) (fun _ => hon) (by decide +kernel) rfl (by first | rfl | assumption) ?_
    refine zz_aload_n (q := 6) (f := 0) (i := 0) C (by decide +kernel) rfl rfl rfl ?_
    refine zz_callV (q := 9) C (m_O_arrange l) cv_O_32 (by decide +kernel) rfl rfl rfl (by first | rfl | assumption) (by decide) (by decide) (Nat.le_of_ble_eq_true rfl) ⟨_, rfl, hok, hwf, hsw, fun h2 hh => ?_⟩
    refine zz_vret C hr hlk (by decide +kernel) hQ (by decide) (by decide) ?_
    exact hp h2 hh
end
section
/-! heaps that are the same but for twins, values, Order's own numbers and arrays of references -/
def or_sm (h h' : zz_H) : Prop := zz_tg h' = zz_tg h ∧ (∀ c j b, c ≠ 5 → ¬ (c = 2 ∧ (j = 5 ∨ j = 6)) → zz_fI h' c j b = zz_fI h c j b) ∧ (∀ b, zz_fI h' 2 5 b = 0 ∨ zz_fI h' 2 5 b = 1 ∨ zz_fI h' 2 5 b = zz_fI h 2 5 b) ∧ (∀ c j b, ¬ (c = 2 ∧ j = 4) → zz_fR h' c j b = zz_fR h c j b) ∧ zz_aI h' = zz_aI h
theorem or_sm_rf (h : zz_H) : or_sm h h := ⟨rfl, fun _ _ _ _ _ => rfl, fun _ => Or.inr (Or.inr rfl), fun _ _ _ _ => rfl, rfl⟩
theorem or_sm_tr {h h1 h2 : zz_H} (a : or_sm h h1) (b : or_sm h1 h2) : or_sm h h2 := ⟨b.1.trans a.1, fun c j d x y => (b.2.1 c j d x y).trans (a.2.1 c j d x y), fun d => by
  rcases b.2.2.1 d with z | z | z
  · exact Or.inl z
  · exact Or.inr (Or.inl z)
  · rw [z]; exact a.2.2.1 d, fun c j d x => (b.2.2.2.1 c j d x).trans (a.2.2.2.1 c j d x), b.2.2.2.2.trans a.2.2.2.2⟩
theorem or_sm_k {h h' : zz_H} (e : or_sm h h') (a : Nat) : sg_k h' a = sg_k h a := congrArg (fun z => z.getD 0) (e.2.2.2.1 2 1 a (by decide))
theorem or_sm_w {h h' : zz_H} (e : or_sm h h') (a : Nat) : sg_w h' a = sg_w h a := congrArg (fun z => z.getD 0) (e.2.2.2.1 2 3 a (by decide))
theorem or_sm_lv {h h' : zz_H} (e : or_sm h h') (a : Nat) : sg_lv h' a = sg_lv h a := by
  rw [sg_lv, sg_lv, or_sm_k e]
  exact e.2.1 1 2 _ (by decide) (by decide)
theorem or_sm_up {h h' : zz_H} (e : or_sm h h') (lv : Int32) : ∀ n a, sg_up h' lv n a = sg_up h lv n a
  | 0, a => rfl
  | n + 1, a => by
    rw [sg_up, sg_up, or_sm_lv e, e.2.2.2.1 2 2 a (by decide)]
    by_cases hl : sg_lv h a ≤ lv
    · rw [if_pos hl, if_pos hl]
    · rw [if_neg hl, if_neg hl]
      cases zz_fR h 2 2 a with
      | none => rfl
      | some b => exact or_sm_up e lv n b
theorem or_sm_at {h h' : zz_H} (e : or_sm h h') (lv : Int32) (a : Nat) : sg_at h' lv a = sg_at h lv a := by
  rw [sg_at, sg_at, or_sm_up e, or_sm_lv e]
theorem or_sm_wf {h h' : zz_H} (e : or_sm h h') (hw : sg_wf h) : sg_wf h' := fun a n ht => by
  rw [e.1] at ht
  obtain ⟨h1, h2, h3, h4⟩ := hw a n ht
  refine ⟨?_, ?_, ?_, ?_⟩
  · rw [or_sm_k e, e.2.2.2.1 2 1 a (by decide)]; exact h1
  · rw [or_sm_w e, e.2.2.2.1 2 3 a (by decide)]; exact h2
  · rw [or_sm_w e, e.1]; exact h3
  · rcases e.2.2.1 a with h5 | h5 | h5
    · exact Or.inl h5
    · exact Or.inr h5
    · rw [h5]; exact h4
theorem or_sm_kw {h h' : zz_H} (e : or_sm h h') (hw : kd_wf h) : kd_wf h' := fun a n ht => by
  rw [e.1] at ht
  obtain ⟨h1, h2⟩ := hw a n ht
  exact ⟨by rw [e.2.1 1 4 a (by decide) (by decide)]; exact h1, by rw [e.2.1 1 3 a (by decide) (by decide)]; exact h2⟩
theorem or_sm_rt {h h' : zz_H} (e : or_sm h h') : ∀ n k, kd_root h' n k = kd_root h n k
  | 0, _ => rfl
  | n + 1, k => by
    rw [kd_root, kd_root, e.2.2.2.1 1 1 k (by decide)]
    cases zz_fR h 1 1 k with
    | none => rfl
    | some b => exact or_sm_rt e n b
theorem or_sm_b {h h' : zz_H} (e : or_sm h h') (a : Nat) : or_b h' a = or_b h a := congrArg (fun z => z.getD 0) (e.2.2.2.1 5 0 a (by decide))
theorem or_sm_n {h h' : zz_H} (e : or_sm h h') (a : Nat) : or_n h' a = or_n h a := congrArg (fun z => z.getD 0) (e.2.2.2.1 5 1 a (by decide))
theorem or_sm_ok {h h' : zz_H} (e : or_sm h h') {a q : Nat} (hok : or_ok h a) (hq : zz_fI h' 5 2 a = nI q) (hq60 : q ≤ 60) : or_ok h' a ∧ or_s h' a = q := by
  have es : or_s h' a = q := by rw [or_s, hq]; exact nI_clamp (by omega)
  refine ⟨⟨?_, ?_, ?_, ?_, ?_, ?_, ?_⟩, es⟩
  · rw [or_sm_b e, e.2.2.2.1 5 0 a (by decide)]; exact hok.1
  · rw [or_sm_n e, e.2.2.2.1 5 1 a (by decide)]; exact hok.2.1
  · rw [or_sm_b e, e.1]; exact hok.2.2.1
  · rw [or_sm_n e, e.1]; exact hok.2.2.2.1
  · rw [or_sm_b e, or_sm_n e]; exact hok.2.2.2.2.1
  · omega
  · rw [es]; exact hq
theorem or_sm_vf {h : zz_H} {y : Nat → Nat → Nat → Int32} (hv : or_vf h y) : or_sm h (or_ry h y) := ⟨rfl, fun c j b _ h2 => hv.1 c j b h2, hv.2, fun _ _ _ _ => rfl, rfl⟩
theorem or_sm_rp (h : zz_H) (x : Nat → Nat → Option Nat) : or_sm h (or_rp h x) := or_sm_rf h
theorem or_sm_AR (a k : Nat) : ∀ n to root h h2, or_AR a k n to root h h2 → or_sm h h2 ∧ or_s h2 a = or_s h a
  | 0, _, _, h, h2, e => by cases (show h2 = h from e); exact ⟨or_sm_rf h, rfl⟩
  | n + 1, to, root, h, h2, e => by
    rcases e with ⟨-, e⟩ | ⟨-, u, -, e⟩
    · cases e; exact ⟨or_sm_rf h, rfl⟩
    · have := or_sm_AR a k n _ _ _ _ e
      exact this
theorem or_sm_cy (h : zz_H) (a : Nat) : or_sm h (or_cy h a) := or_sm_rf h
/-- what arrange leaves as it was -/
theorem or_sm_arr {h h2 : zz_H} {a : Nat} (e : or_arr h a h2) : or_sm h h2 ∧ zz_fI h2 5 = zz_fI h 5 := by
  rcases e with ⟨-, e⟩ | ⟨-, k, sw, y, to, -, -, -, hv, -, har⟩
  · cases e; exact ⟨or_sm_rf h, rfl⟩
  · refine ⟨or_sm_tr (or_sm_cy h a) (or_sm_tr (or_sm_vf hv.1) (or_sm_AR a _ _ _ _ _ _ har).1), ?_⟩
    have e2 : ∀ K n to root h h2, or_AR a K n to root h h2 → zz_fI h2 = zz_fI h := by
      intro K n
      induction n with
      | zero => intro to root h h2 e; cases (show h2 = h from e); rfl
      | succ n ih =>
        intro to root h h2 e
        rcases e with ⟨-, e⟩ | ⟨-, u, -, e⟩
        · cases e; rfl
        · exact (ih _ _ (or_cp h a root to u) h2 e).trans rfl
    rw [e2 _ _ _ _ _ _ har]
    funext j b
    exact hv.1.1 5 j b (fun z => absurd z.1 (by decide))
end
section
/-! Order: a segment enters -/
def or_sh (h : zz_H) (a i : Nat) : zz_H := or_rp h (fun b j => if b = or_b h a ∧ i < j ∧ j ≤ or_s h a then zz_aR h b (j - 1) else zz_aR h b j)
theorem or_sh_0 (h : zz_H) (a : Nat) : or_sh h a (or_s h a) = h := by
  have e : (fun b j => if b = or_b h a ∧ or_s h a < j ∧ j ≤ or_s h a then zz_aR h b (j - 1) else zz_aR h b j) = zz_aR h := by
    funext b j
    rw [if_neg (by omega)]
  rw [or_sh, e]; rfl
theorem or_sh_b (h : zz_H) (a i j : Nat) (hj : j ≤ i) : zz_aR (or_sh h a i) (or_b h a) j = zz_aR h (or_b h a) j := by
  show (if or_b h a = or_b h a ∧ i < j ∧ j ≤ or_s h a then zz_aR h (or_b h a) (j - 1) else zz_aR h (or_b h a) j) = _
  rw [if_neg (by omega)]
theorem or_sh_s (h : zz_H) (a i : Nat) (hi : i + 1 ≤ or_s h a) : zz_sR (or_sh h a (i + 1)) (or_b h a) (i + 1) (zz_aR h (or_b h a) i) = or_sh h a i := by
  rw [or_sh, or_rp_sR, or_sh]
  congr 1
  funext b j
  by_cases h1 : b = or_b h a ∧ j = i + 1
  · rw [if_pos h1, if_pos ⟨h1.1, by omega, by omega⟩, h1.1, h1.2]
    rfl
  · rw [if_neg h1]
    by_cases h2 : b = or_b h a ∧ i + 1 < j ∧ j ≤ or_s h a
    · rw [if_pos h2, if_pos ⟨h2.1, by omega, h2.2.2⟩]
    · rw [if_neg h2, if_neg (fun z => h2 ⟨z.1, by have := fun w => h1 ⟨z.1, w⟩; omega, z.2.2⟩)]
def or_is (h : zz_H) (a f to : Nat) : zz_H := zz_pI (zz_sR (or_sh h a to) (or_b h a) to (some f)) 5 2 a (nI (or_s h a + 1))
theorem or_is_b (h : zz_H) (a f to j : Nat) : zz_aR (or_is h a f to) (or_b h a) j = if j < to then zz_aR h (or_b h a) j else if j = to then some f else if j ≤ or_s h a then zz_aR h (or_b h a) (j - 1) else zz_aR h (or_b h a) j := by
  show (if or_b h a = or_b h a ∧ j = to then some f else zz_aR (or_sh h a to) (or_b h a) j) = _
  by_cases h1 : j = to
  · rw [if_pos ⟨rfl, h1⟩, if_neg (by omega), if_pos h1]
  · rw [if_neg (fun z => h1 z.2)]
    by_cases h2 : j < to
    · rw [if_pos h2]; exact or_sh_b h a to j (by omega)
    · rw [if_neg h2, if_neg h1]
      show (if or_b h a = or_b h a ∧ to < j ∧ j ≤ or_s h a then zz_aR h (or_b h a) (j - 1) else zz_aR h (or_b h a) j) = _
      by_cases h3 : j ≤ or_s h a
      · rw [if_pos ⟨rfl, by omega, h3⟩, if_pos h3]
      · rw [if_neg (fun z => h3 z.2.2), if_neg h3]
theorem or_is_sm (h : zz_H) (a f to : Nat) : or_sm h (or_is h a f to) := ⟨rfl, fun c j b hc _ => if_neg (fun z => hc z.1), fun _ => Or.inr (Or.inr rfl), fun _ _ _ _ => rfl, rfl⟩
theorem or_is_q (h : zz_H) (a f to : Nat) : zz_fI (or_is h a f to) 5 2 a = nI (or_s h a + 1) := if_pos ⟨rfl, rfl, rfl⟩
theorem or_is_ok {h : zz_H} {a f to : Nat} (hok : or_okB h a) (hs : or_s h a < 60) (hto : to ≤ or_s h a) : or_okB (or_is h a f to) a ∧ or_s (or_is h a f to) a = or_s h a + 1 := by
  obtain ⟨h1, h2⟩ := or_sm_ok (or_is_sm h a f to) hok.1 (or_is_q h a f to) (by omega)
  refine ⟨⟨h1, fun i hi => ?_⟩, h2⟩
  rw [h2] at hi
  have e : or_b (or_is h a f to) a = or_b h a := rfl
  have key : ∃ v, zz_aR (or_is h a f to) (or_b h a) i = some v := by
    rw [or_is_b]
    by_cases c1 : i < to
    · rw [if_pos c1]; exact ⟨_, hok.2 i (by omega)⟩
    · rw [if_neg c1]
      by_cases c2 : i = to
      · rw [if_pos c2]; exact ⟨_, rfl⟩
      · rw [if_neg c2, if_pos (by omega)]; exact ⟨_, hok.2 (i - 1) (by omega)⟩
  obtain ⟨v, hv⟩ := key
  rw [or_B, e, hv]; rfl
theorem or_entry_le {h : zz_H} {a f to : Nat} (he : or_entry h a f to) : to ≤ or_s h a := by
  rcases he with ⟨h1, -⟩ | ⟨-, h1⟩
  · omega
  · exact h1.1
theorem nI_pred9 (n : Nat) : nI (n + 1) + Int32.ofInt (-1) = nI n := by
  rw [show Int32.ofInt (-1) = -1 from rfl, ← Int32.sub_eq_add_neg]
  exact nI_pred n
def T_O_enter : zz_Tr := fun as h post => ∃ a f, as = [zz_r 5 (some a), zz_r 2 (some f)] ∧ or_okB h a ∧ or_s h a < 60 ∧ sg_wf h ∧ kd_wf h ∧ or_sw h a ∧ ∀ to h2, or_entry h a f to → or_arr (or_is h a f to) a h2 → post none h2
set_option maxRecDepth 100000 in
set_option maxHeartbeats 4000000 in
theorem m_O_enter (l : Launch) : zz_Met l y_O_enter w_O_enter { frames := 6, cells := 0, slots := 0, locals := 125 } T_O_enter := by
  refine zz_ofZ (by decide) (fun as h post hT => ?_) ?_
  · obtain ⟨a, f, rfl, hok, hs60, hwf, hkw, hsw, hp⟩ := hT
    exact ⟨by simp [zz_cat], by simp⟩
  · intro D DA h as post hT p e s m args below meth c Q C hr hlk hnm hQ
    obtain ⟨a, f, rfl, hok, hs60, hwf, hkw, hsw, hp⟩ := hT
    have lp21 : ∀ to, to ≤ or_s h a → (∀ h2, or_arr (or_is h a f to) a h2 → post none h2) → ∀ n i, i + 1 ≤ n + to → to ≤ i → i ≤ or_s h a → zz_Z p l e { frames := 6, cells := 0, slots := 0, locals := 125 } s m args below meth c Q D DA (zz_A h s.heap.size) h 4 21 [some (zz_r 5 (some a)), some (zz_r 2 (some f)), some (zz_i (nI to)), some (zz_i (nI i))] [] (or_sh h a i) 0 0 := by
      intro to hto hp9 n
      induction n with
      | zero =>
        intro i hni hi
        exact absurd hni (by omega)
      | succ n ih =>
        intro i hni hti his
        refine zz_iload_n (q := 22) (f := 3) (i := 3) C (by decide +kernel) rfl rfl rfl ?_
        refine zz_iload_n (q := 23) (f := 2) (i := 2) C (by decide +kernel) rfl rfl rfl ?_
        refine zz_icmp_le (off := 23) (tgt := 46) (q := 26) C (by decide +kernel) (by decide) rfl (fun c23 => ?_) (fun c23 => ?_)
        · have he : i = to := by
            have := (nI_leI (a := i) (b := to) (by omega) (by omega)).mp c23
            omega
          subst he
          refine zz_aload_n (q := 47) (f := 0) (i := 0) C (by decide +kernel) rfl rfl rfl ?_
          refine zz_getR (q := 50) C gf_O_11 (by decide +kernel) rfl (by first | rfl | assumption) hok.1.1 ?_
          refine zz_iload_n (q := 51) (f := 2) (i := 2) C (by decide +kernel) rfl rfl rfl ?_
          refine zz_aload_n (q := 52) (f := 1) (i := 1) C (by decide +kernel) rfl rfl rfl ?_
          refine zz_aastore (q := 53) C (ci := 2) 4 rfl rfl (by decide +kernel) rfl rfl hok.1.2.2.1 rfl (by omega) (by decide) ?_
          refine zz_aload_n (q := 54) (f := 0) (i := 0) C (by decide +kernel) rfl rfl rfl ?_
          refine zz_dup (q := 55) C (by decide +kernel) rfl rfl ?_
          refine zz_getI (q := 58) C gf_O_35 (by decide +kernel) rfl (by first | rfl | assumption) hok.1.2.2.2.2.2.2 ?_
          refine zz_iconst (q := 59) (n := 1) (x := 1) C (by decide +kernel) rfl (by decide +kernel) ?_
          refine zz_iadd (q := 60) C (by decide +kernel) rfl (nI_1 _) ?_
          refine zz_putI (q := 63) C gf_O_35 (fun h => by cases h) (fun h => by cases h) (by decide +kernel) rfl (by first | rfl | assumption) ?_
          refine zz_aload_n (q := 64) (f := 0) (i := 0) C (by decide +kernel) rfl rfl rfl ?_
          refine zz_callV (q := 67) C (m_O_arrange l) cv_O_32 (by decide +kernel) rfl rfl rfl (by first | rfl | assumption) (by decide) (by decide) (Nat.le_of_ble_eq_true rfl) ⟨_, rfl, (or_is_ok hok hs60 hto).1, or_sm_wf (or_is_sm h a f i) hwf, hsw, fun h2 hh => ?_⟩
          refine zz_vret C hr hlk (by decide +kernel) hQ (by decide) (by decide) ?_
          exact hp9 h2 hh
        · obtain ⟨i9, rfl⟩ : ∃ i9, i = i9 + 1 := ⟨i - 1, by
            have : ¬ i ≤ to := fun z => c23 (nI_le z (by omega))
            omega⟩
          have h9 : to ≤ i9 := by
            have : ¬ i9 + 1 ≤ to := fun z => c23 (nI_le z (by omega))
            omega
          refine zz_aload_n (q := 27) (f := 0) (i := 0) C (by decide +kernel) rfl rfl rfl ?_
          refine zz_getR (q := 30) C gf_O_11 (by decide +kernel) rfl (by first | rfl | assumption) hok.1.1 ?_
          refine zz_iload_n (q := 31) (f := 3) (i := 3) C (by decide +kernel) rfl rfl rfl ?_
          refine zz_aload_n (q := 32) (f := 0) (i := 0) C (by decide +kernel) rfl rfl rfl ?_
          refine zz_getR (q := 35) C gf_O_11 (by decide +kernel) rfl (by first | rfl | assumption) hok.1.1 ?_
          refine zz_iload_n (q := 36) (f := 3) (i := 3) C (by decide +kernel) rfl rfl rfl ?_
          refine zz_iconst (q := 37) (n := 1) (x := 1) C (by decide +kernel) rfl (by decide +kernel) ?_
          refine zz_isub (q := 38) C (by decide +kernel) rfl (nI_pred _) ?_
          refine zz_aaload (q := 39) C 4 rfl (by decide) (by decide +kernel) rfl rfl hok.1.2.2.1 rfl (by have := hok.1.2.2.2.2.2.1; omega) (by decide) (or_sh_b h a (i9 + 1) i9 (by omega)) ?_
          refine zz_aastore (q := 40) C (ci := 2) 4 rfl rfl (by decide +kernel) rfl rfl hok.1.2.2.1 rfl (by omega) (by decide) ?_
          rw [or_sh_s h a i9 his]
          refine zz_iinc (q := 43) (i := 3) (n := -1) C (by decide +kernel) rfl rfl (nI_pred9 _) (by decide) rfl ?_
          refine zz_goto (off := -22) (tgt := 21) C (by decide +kernel) (by decide) ?_
          -- AT 21
          exact ih i9 (by omega) h9 (by omega)
    refine zz_aload_n (q := 1) (f := 0) (i := 0) C (by decide +kernel) rfl rfl rfl ?_
    refine zz_getI (q := 4) C gf_O_35 (by decide +kernel) rfl (by first | rfl | assumption) hok.1.2.2.2.2.2.2 ?_
    refine zz_bipush (q := 6) (n := 60) (x := 60) C (by decide +kernel) rfl (by decide +kernel) ?_
    refine zz_icmp_lt (off := 4) (tgt := 10) (q := 9) C (by decide +kernel) (by decide) rfl (fun c6 => ?_) (fun c6 => ?_)
    · refine zz_aload_n (q := 11) (f := 0) (i := 0) C (by decide +kernel) rfl rfl rfl ?_
      refine zz_aload_n (q := 12) (f := 1) (i := 1) C (by decide +kernel) rfl rfl rfl ?_
      refine zz_callV (q := 15) C (m_O_entryOf l) cv_O_79 (by decide +kernel) rfl rfl rfl (by first | rfl | assumption) (by decide) (by decide) (Nat.le_of_ble_eq_true rfl) ⟨_, _, rfl, hok, hwf, hkw, fun to hto => ?_⟩
      refine zz_istore_n (q := 16) (f := 2) (i := 2) C (by decide +kernel) rfl rfl (by decide) rfl ?_
      refine zz_aload_n (q := 17) (f := 0) (i := 0) C (by decide +kernel) rfl rfl rfl ?_
      refine zz_getI (q := 20) C gf_O_35 (by decide +kernel) rfl (by first | rfl | assumption) hok.1.2.2.2.2.2.2 ?_
      refine zz_istore_n (q := 21) (f := 3) (i := 3) C (by decide +kernel) rfl rfl (by decide) rfl ?_
      -- AT 21
      have l9 := lp21 to (or_entry_le hto) (fun h2 hh => hp to h2 hto hh) (or_s h a + 1) (or_s h a) (by omega) (or_entry_le hto) (Nat.le_refl _)
      rw [or_sh_0] at l9
      exact l9
    · refine zz_vret C hr hlk (by decide +kernel) hQ (by decide) (by decide) ?_
      exact absurd (nI_lt (b := 60) hs60 (by decide)) c6
end
section
/-! Order: a tree is removed -/
def or_rw (h : zz_H) (w : Nat → Nat → Nat → Option Nat) (x : Nat → Nat → Option Nat) : zz_H := (h.1, h.2.1, w, h.2.2.2.1, x, h.2.2.2.2.2)
def or_tf (h : zz_H) (w : Nat → Nat → Nat → Option Nat) : Prop := ∀ c j b, ¬ (c = 2 ∧ j = 4) → w c j b = zz_fR h c j b
theorem or_rw_sm {h : zz_H} {w : Nat → Nat → Nat → Option Nat} (x : Nat → Nat → Option Nat) (hw : or_tf h w) : or_sm h (or_rw h w x) := ⟨rfl, fun _ _ _ _ _ => rfl, fun _ => Or.inr (Or.inr rfl), hw, rfl⟩
/-- the places of what is kept of the first n -/
noncomputable def or_kl (h : zz_H) (a t : Nat) : Nat → List Nat
  | 0 => []
  | n + 1 => @ite (List Nat) (or_in h a t n) (Classical.propDecidable _) (or_kl h a t n) (or_kl h a t n ++ [n])
theorem or_kl_in {h : zz_H} {a t n : Nat} (hi : or_in h a t n) : or_kl h a t (n + 1) = or_kl h a t n := by rw [or_kl, if_pos hi]
theorem or_kl_out {h : zz_H} {a t n : Nat} (hi : ¬ or_in h a t n) : or_kl h a t (n + 1) = or_kl h a t n ++ [n] := by rw [or_kl, if_neg hi]
theorem or_kl_le (h : zz_H) (a t : Nat) : ∀ n, (or_kl h a t n).length ≤ n
  | 0 => Nat.le_refl _
  | n + 1 => by
    have := or_kl_le h a t n
    by_cases hi : or_in h a t n
    · rw [or_kl_in hi]; omega
    · rw [or_kl_out hi, List.length_append]; simp; omega
theorem or_kl_lt (h : zz_H) (a t : Nat) : ∀ n j, j < (or_kl h a t n).length → (or_kl h a t n).getD j 0 < n
  | 0, j, hj => absurd hj (Nat.not_lt_zero _)
  | n + 1, j, hj => by
    have ih := or_kl_lt h a t n j
    by_cases hi : or_in h a t n
    · rw [or_kl_in hi] at hj ⊢
      have := ih hj; omega
    · rw [or_kl_out hi] at hj ⊢
      rw [List.length_append] at hj
      by_cases h1 : j < (or_kl h a t n).length
      · have := ih h1
        rw [List.getD_eq_getElem?_getD, List.getElem?_append_left h1, ← List.getD_eq_getElem?_getD]; omega
      · have e : j = (or_kl h a t n).length := by simp at hj; omega
        subst e
        simp
def or_U (h : zz_H) (a t i b : Nat) : Prop := ∃ j, j < i ∧ or_in h a t j ∧ (or_B h a j = b ∨ zz_fR h 2 4 (or_B h a j) = some b)
def or_J (h : zz_H) (a t i : Nat) (w : Nat → Nat → Nat → Option Nat) : Prop := ∀ b, (or_U h a t i b → w 2 4 b = none) ∧ (¬ or_U h a t i b → w 2 4 b = zz_fR h 2 4 b)
def or_sy (h : zz_H) (a : Nat) : Prop := ∀ j c, j < or_s h a → zz_fR h 2 4 (or_B h a j) = some c → zz_fR h 2 4 c = some (or_B h a j)
theorem or_U_mono {h : zz_H} {a t i b : Nat} (hu : or_U h a t i b) : or_U h a t (i + 1) b := by
  obtain ⟨j, h1, h2⟩ := hu
  exact ⟨j, by omega, h2⟩
theorem or_J_out {h : zz_H} {a t i : Nat} {w : Nat → Nat → Nat → Option Nat} (hJ : or_J h a t i w) (ho : ¬ or_in h a t i) : or_J h a t (i + 1) w := fun b => by
  refine ⟨fun ⟨j, h1, h2, h3⟩ => ?_, fun hu => (hJ b).2 (fun z => hu (or_U_mono z))⟩
  rcases Nat.lt_succ_iff_lt_or_eq.mp h1 with h1 | rfl
  · exact (hJ b).1 ⟨j, h1, h2, h3⟩
  · exact absurd h2 ho
theorem or_J_none {h : zz_H} {a t i : Nat} {w : Nat → Nat → Nat → Option Nat} (hJ : or_J h a t i w) (hs : or_sy h a) (hi : i < or_s h a) (hin : or_in h a t i) (hn : w 2 4 (or_B h a i) = none) : or_J h a t (i + 1) w := fun b => by
  refine ⟨fun ⟨j, h1, h2, h3⟩ => ?_, fun hu => (hJ b).2 (fun z => hu (or_U_mono z))⟩
  rcases Nat.lt_succ_iff_lt_or_eq.mp h1 with h1 | rfl
  · exact (hJ b).1 ⟨j, h1, h2, h3⟩
  · rcases h3 with h3 | h3
    · rw [← h3]; exact hn
    · by_cases hu : or_U h a t j (or_B h a j)
      · obtain ⟨q, h4, h5, h6⟩ := hu
        refine (hJ b).1 ⟨q, h4, h5, ?_⟩
        rcases h6 with h6 | h6
        · right; rw [h6]; exact h3
        · left
          have h7 := hs q _ (by omega) h6
          exact Option.some.inj (h7.symm.trans h3)
      · rw [(hJ _).2 hu, h3] at hn
        cases hn
def or_w2 (w : Nat → Nat → Nat → Option Nat) (b c : Nat) : Nat → Nat → Nat → Option Nat := fun q j d => if q = 2 ∧ j = 4 ∧ d = b then none else if q = 2 ∧ j = 4 ∧ d = c then none else w q j d
theorem or_w2_4 (w : Nat → Nat → Nat → Option Nat) (b c d : Nat) : or_w2 w b c 2 4 d = if d = b ∨ d = c then none else w 2 4 d := by
  rw [or_w2]
  by_cases h1 : d = b
  · rw [if_pos ⟨rfl, rfl, h1⟩, if_pos (Or.inl h1)]
  · rw [if_neg (fun z => h1 z.2.2)]
    by_cases h2 : d = c
    · rw [if_pos ⟨rfl, rfl, h2⟩, if_pos (Or.inr h2)]
    · rw [if_neg (fun z => h2 z.2.2), if_neg (fun z => z.elim h1 h2)]
theorem or_tf_2 {h : zz_H} {w : Nat → Nat → Nat → Option Nat} (ht : or_tf h w) (b c : Nat) : or_tf h (or_w2 w b c) := fun q j d hn => by
  rw [or_w2, if_neg (fun z => hn ⟨z.1, z.2.1⟩), if_neg (fun z => hn ⟨z.1, z.2.1⟩)]
  exact ht q j d hn
theorem or_J_some {h : zz_H} {a t i c : Nat} {w : Nat → Nat → Nat → Option Nat} (hJ : or_J h a t i w) (hin : or_in h a t i) (hn : w 2 4 (or_B h a i) = some c) : or_J h a t (i + 1) (or_w2 w (or_B h a i) c) := fun b => by
  have hu : ¬ or_U h a t i (or_B h a i) := fun z => by rw [(hJ _).1 z] at hn; cases hn
  have he : zz_fR h 2 4 (or_B h a i) = some c := by rw [← (hJ _).2 hu]; exact hn
  rw [or_w2_4]
  refine ⟨fun ⟨j, h1, h2, h3⟩ => ?_, fun hz => ?_⟩
  · by_cases hb : b = or_B h a i ∨ b = c
    · rw [if_pos hb]
    · rw [if_neg hb]
      rcases Nat.lt_succ_iff_lt_or_eq.mp h1 with h1 | rfl
      · exact (hJ b).1 ⟨j, h1, h2, h3⟩
      · rcases h3 with h3 | h3
        · exact absurd (Or.inl h3.symm) hb
        · exact absurd (Or.inr (Option.some.inj (h3.symm.trans he))) hb
  · rw [if_neg (fun hb => hz ⟨i, by omega, hin, by
      rcases hb with hb | hb
      · exact Or.inl hb.symm
      · right; rw [hb]; exact he⟩)]
    exact (hJ b).2 (fun z => hz (or_U_mono z))
def or_X (h : zz_H) (a t i : Nat) (x : Nat → Nat → Option Nat) : Prop := (∀ b j, b ≠ or_b h a → x b j = zz_aR h b j) ∧ (∀ j, i ≤ j → x (or_b h a) j = zz_aR h (or_b h a) j) ∧ ∀ j, j < (or_kl h a t i).length → x (or_b h a) j = zz_aR h (or_b h a) ((or_kl h a t i).getD j 0)
theorem or_X_in {h : zz_H} {a t i : Nat} {x : Nat → Nat → Option Nat} (hX : or_X h a t i x) (hin : or_in h a t i) : or_X h a t (i + 1) x := ⟨hX.1, fun j hj => hX.2.1 j (by omega), by rw [or_kl_in hin]; exact hX.2.2⟩
theorem or_X_out {h : zz_H} {a t i q : Nat} {x : Nat → Nat → Option Nat} (hX : or_X h a t i x) (hout : ¬ or_in h a t i) (hq : q = (or_kl h a t i).length) (hv : zz_aR h (or_b h a) i = some (or_B h a i)) : or_X h a t (i + 1) (fun b j => if b = or_b h a ∧ j = q then some (or_B h a i) else x b j) := by
  have hle := or_kl_le h a t i
  refine ⟨fun b j hb => ?_, fun j hj => ?_, fun j hj => ?_⟩
  · show (if b = or_b h a ∧ j = q then some (or_B h a i) else x b j) = _
    rw [if_neg (fun z => hb z.1)]; exact hX.1 b j hb
  · show (if or_b h a = or_b h a ∧ j = q then some (or_B h a i) else x (or_b h a) j) = _
    rw [if_neg (fun z => by have := z.2; omega)]; exact hX.2.1 j (by omega)
  · show (if or_b h a = or_b h a ∧ j = q then some (or_B h a i) else x (or_b h a) j) = _
    rw [or_kl_out hout] at hj ⊢
    by_cases h1 : j = q
    · rw [if_pos ⟨rfl, h1⟩, h1, hq, ← hv]
      congr 1
      simp
    · rw [if_neg (fun z => h1 z.2)]
      rw [List.length_append] at hj
      have h2 : j < (or_kl h a t i).length := by simp at hj; omega
      rw [hX.2.2 j h2, List.getD_eq_getElem?_getD, List.getD_eq_getElem?_getD, List.getElem?_append_left h2]
def or_X2 (h : zz_H) (a t : Nat) (x : Nat → Nat → Option Nat) : Prop := (∀ b j, b ≠ or_b h a → b ≠ or_n h a → x b j = zz_aR h b j) ∧ ∀ j, j < (or_kl h a t (or_s h a)).length → x (or_b h a) j = zz_aR h (or_b h a) ((or_kl h a t (or_s h a)).getD j 0)
theorem or_X2_s {h : zz_H} {a t i c : Nat} {x : Nat → Nat → Option Nat} {v : Option Nat} (hX : or_X2 h a t x) (hc : c = or_b h a ∨ c = or_n h a) (hi : (or_kl h a t (or_s h a)).length ≤ i) : or_X2 h a t (fun b j => if b = c ∧ j = i then v else x b j) := by
  refine ⟨fun b j h1 h2 => ?_, fun j hj => ?_⟩
  · show (if b = c ∧ j = i then v else x b j) = _
    rw [if_neg (fun z => hc.elim (fun w => h1 (z.1.trans w)) (fun w => h2 (z.1.trans w)))]; exact hX.1 b j h1 h2
  · show (if or_b h a = c ∧ j = i then v else x (or_b h a) j) = _
    rw [if_neg (fun z => by have := z.2; omega)]; exact hX.2 j hj
def or_rm (h : zz_H) (a q : Nat) (w : Nat → Nat → Nat → Option Nat) (x : Nat → Nat → Option Nat) : zz_H := zz_pI (or_rw h w x) 5 2 a (nI q)
theorem or_rm_sm {h : zz_H} {w : Nat → Nat → Nat → Option Nat} (a q : Nat) (x : Nat → Nat → Option Nat) (hw : or_tf h w) : or_sm h (or_rm h a q w x) := ⟨rfl, fun c j b hc _ => if_neg (fun z => hc z.1), fun _ => Or.inr (Or.inr rfl), hw, rfl⟩
theorem or_rm_ok {h : zz_H} {a t q : Nat} {w : Nat → Nat → Nat → Option Nat} {x : Nat → Nat → Option Nat} (hok : or_okB h a) (hw : or_tf h w) (hX : or_X2 h a t x) (hq : q = (or_kl h a t (or_s h a)).length) : or_okB (or_rm h a q w x) a ∧ or_s (or_rm h a q w x) a = q := by
  have hle := or_kl_le h a t (or_s h a)
  have hb := hok.1.2.2.2.2.2.1
  obtain ⟨h1, h2⟩ := or_sm_ok (q := q) (or_rm_sm a q x hw) hok.1 (if_pos ⟨rfl, rfl, rfl⟩) (by omega)
  refine ⟨⟨h1, fun i hi => ?_⟩, h2⟩
  rw [h2] at hi
  have e : zz_aR (or_rm h a q w x) (or_b h a) i = some (or_B h a ((or_kl h a t (or_s h a)).getD i 0)) := (hX.2 i (by omega)).trans (hok.2 _ (or_kl_lt h a t _ i (by omega)))
  rw [or_B, or_sm_b (or_rm_sm a q x hw), e]; rfl
theorem nI_sub9 {a b : Nat} (h : b ≤ a) : nI a - nI b = nI (a - b) := by
  have e : nI a = nI (a - b) + nI b := by rw [nI_add]; congr 1; omega
  rw [e]; exact Int32.add_sub_cancel _ _
def T_O_removeTree : zz_Tr := fun as h post => ∃ a t, as = [zz_r 5 (some a), zz_r 2 (some t)] ∧ or_okB h a ∧ sg_wf h ∧ or_sw h a ∧ or_sy h a ∧ ∀ w x h2, or_tf h w → or_J h a t (or_s h a) w → or_X2 h a t x → or_arr (or_rm h a (or_kl h a t (or_s h a)).length w x) a h2 → post (some (zz_i (nI (or_s h a - (or_kl h a t (or_s h a)).length)))) h2
set_option maxRecDepth 100000 in
set_option maxHeartbeats 4000000 in
theorem m_O_removeTree (l : Launch) : zz_Met l y_O_removeTree w_O_removeTree { frames := 6, cells := 0, slots := 0, locals := 125 } T_O_removeTree := by
  refine zz_ofZ (by decide) (fun as h post hT => ?_) ?_
  · obtain ⟨a, t, rfl, hok, hwf, hsw, hsy, hp⟩ := hT
    exact ⟨by simp [zz_cat], by simp⟩
  · intro D DA h as post hT p e s m args below meth c Q C hr hlk hnm hQ
    obtain ⟨a, t, rfl, hok, hwf, hsw, hsy, hp⟩ := hT
    have hb := hok.1.2.2.2.2.2.1
    have lp82 : ∀ q w x, q = (or_kl h a t (or_s h a)).length → or_tf h w → or_J h a t (or_s h a) w → or_X2 h a t x → ∀ n i, or_s h a + 1 ≤ n + i → i ≤ or_s h a → q ≤ i → zz_Z p l e { frames := 6, cells := 0, slots := 0, locals := 125 } s m args below meth c Q D DA (zz_A h s.heap.size) h 5 82 [some (zz_r 5 (some a)), some (zz_r 2 (some t)), some (zz_i (nI q)), some (zz_i (nI (or_s h a - q))), some (zz_i (nI i))] [] (or_rw h w x) 0 0 := by
      intro q w x hq htf hJ hX n
      induction n generalizing x with
      | zero =>
        intro i hni hi
        exact absurd hni (by omega)
      | succ n ih =>
        intro i hni hile hqi
        refine zz_iload (q := 84) (i := 4) C (by decide +kernel) rfl rfl ?_
        refine zz_aload_n (q := 85) (f := 0) (i := 0) C (by decide +kernel) rfl rfl rfl ?_
        refine zz_getI (q := 88) C gf_O_35 (by decide +kernel) rfl (by first | rfl | assumption) hok.1.2.2.2.2.2.2 ?_
        refine zz_icmp_ge (off := 25) (tgt := 113) (q := 91) C (by decide +kernel) (by decide) rfl (fun c88 => ?_) (fun c88 => ?_)
        · refine zz_aload_n (q := 114) (f := 0) (i := 0) C (by decide +kernel) rfl rfl rfl ?_
          refine zz_iload_n (q := 115) (f := 2) (i := 2) C (by decide +kernel) rfl rfl rfl ?_
          refine zz_putI (q := 118) C gf_O_35 (fun h => by cases h) (fun h => by cases h) (by decide +kernel) rfl (by first | rfl | assumption) ?_
          show zz_Z p l e _ s m args below meth c Q D DA (zz_A h s.heap.size) h _ _ _ _ (or_rm h a q w x) 0 0
          refine zz_aload_n (q := 119) (f := 0) (i := 0) C (by decide +kernel) rfl rfl rfl ?_
          refine zz_callV (q := 122) C (m_O_arrange l) cv_O_32 (by decide +kernel) rfl rfl rfl (by first | rfl | assumption) (by decide) (by decide) (Nat.le_of_ble_eq_true rfl) ⟨_, rfl, (or_rm_ok hok htf hX hq).1, or_sm_wf (or_rm_sm a q x htf) hwf, fun k hk => hsw k (((or_rm_sm a q x htf).2.2.2.1 5 3 a (by decide)).symm.trans hk), fun h2 hh => ?_⟩
          refine zz_iload_n (q := 123) (f := 3) (i := 3) C (by decide +kernel) rfl rfl rfl ?_
          refine zz_iret C hr hlk (by decide +kernel) hQ (by decide) (by decide) ?_
          subst hq
          exact hp w x h2 htf hJ hX hh
        · have hi : i < or_s h a := Nat.lt_of_not_le (fun z => c88 (nI_le z (by omega)))
          refine zz_aload_n (q := 92) (f := 0) (i := 0) C (by decide +kernel) rfl rfl rfl ?_
          refine zz_getR (q := 95) C gf_O_11 (by decide +kernel) rfl (by first | rfl | assumption) ((htf 5 0 a (by decide)).trans hok.1.1) ?_
          refine zz_iload (q := 97) (i := 4) C (by decide +kernel) rfl rfl ?_
          refine zz_null (q := 98) C 2 (by decide +kernel) rfl ?_
          refine zz_aastore (q := 99) C (ci := 2) 4 rfl rfl (by decide +kernel) rfl rfl hok.1.2.2.1 rfl (by omega) (by decide) ?_
          refine zz_aload_n (q := 100) (f := 0) (i := 0) C (by decide +kernel) rfl rfl rfl ?_
          refine zz_getR (q := 103) C gf_O_17 (by decide +kernel) rfl (by first | rfl | assumption) ((htf 5 1 a (by decide)).trans hok.1.2.1) ?_
          refine zz_iload (q := 105) (i := 4) C (by decide +kernel) rfl rfl ?_
          refine zz_null (q := 106) C 2 (by decide +kernel) rfl ?_
          refine zz_aastore (q := 107) C (ci := 2) 4 rfl rfl (by decide +kernel) rfl rfl hok.1.2.2.2.1 rfl (by omega) (by decide) ?_
          refine zz_iinc (q := 110) (i := 4) (n := 1) C (by decide +kernel) rfl rfl (nI_succ _).symm (by decide) rfl ?_
          refine zz_goto (off := -28) (tgt := 82) C (by decide +kernel) (by decide) ?_
          -- AT 82
          exact ih _ (or_X2_s (or_X2_s hX (Or.inl rfl) (by omega)) (Or.inr rfl) (by omega)) (i + 1) (by omega) (by omega) (by omega)
    have lp4 : ∀ n i, or_s h a + 1 ≤ n + i → i ≤ or_s h a → ∀ v9 q w x, q = (or_kl h a t i).length → or_tf h w → or_J h a t i w → or_X h a t i x → zz_Z p l e { frames := 6, cells := 0, slots := 0, locals := 125 } s m args below meth c Q D DA (zz_A h s.heap.size) h 5 4 [some (zz_r 5 (some a)), some (zz_r 2 (some t)), some (zz_i (nI q)), some (zz_i (nI i)), v9] [] (or_rw h w x) 0 0 := by
      intro n
      induction n with
      | zero =>
        intro i hni hi
        exact absurd hni (by omega)
      | succ n ih =>
        intro i hni hile v9 q w x hq htf hJ hX
        have hsm := or_rw_sm x htf
        have hql := or_kl_le h a t i
        refine zz_iload_n (q := 5) (f := 3) (i := 3) C (by decide +kernel) rfl rfl rfl ?_
        refine zz_aload_n (q := 6) (f := 0) (i := 0) C (by decide +kernel) rfl rfl rfl ?_
        refine zz_getI (q := 9) C gf_O_35 (by decide +kernel) rfl (by first | rfl | assumption) hok.1.2.2.2.2.2.2 ?_
        refine zz_icmp_ge (off := 63) (tgt := 72) (q := 12) C (by decide +kernel) (by decide) rfl (fun c9 => ?_) (fun c9 => ?_)
        · refine zz_aload_n (q := 73) (f := 0) (i := 0) C (by decide +kernel) rfl rfl rfl ?_
          refine zz_getI (q := 76) C gf_O_35 (by decide +kernel) rfl (by first | rfl | assumption) hok.1.2.2.2.2.2.2 ?_
          refine zz_iload_n (q := 77) (f := 2) (i := 2) C (by decide +kernel) rfl rfl rfl ?_
          refine zz_isub (q := 78) C (by decide +kernel) rfl (nI_sub9 (by omega)) ?_
          refine zz_istore_n (q := 79) (f := 3) (i := 3) C (by decide +kernel) rfl rfl (by decide) rfl ?_
          refine zz_iload_n (q := 80) (f := 2) (i := 2) C (by decide +kernel) rfl rfl rfl ?_
          refine zz_istore (q := 82) (i := 4) C (by decide +kernel) rfl (by decide) rfl ?_
          -- AT 82
          have he : i = or_s h a := by
            have := ((nI_leI (a := or_s h a) (b := i) (by omega) (by omega)).mp c9)
            omega
          subst he
          exact lp82 q w x hq htf hJ ⟨fun b j h1 _ => hX.1 b j h1, hX.2.2⟩ (or_s h a + 1) q (by omega) (by omega) (Nat.le_refl _)
        · have hi : i < or_s h a := Nat.lt_of_not_le (fun z => c9 (nI_le z (by omega)))
          refine zz_aload_n (q := 13) (f := 0) (i := 0) C (by decide +kernel) rfl rfl rfl ?_
          refine zz_getR (q := 16) C gf_O_11 (by decide +kernel) rfl (by first | rfl | assumption) ((htf 5 0 a (by decide)).trans hok.1.1) ?_
          refine zz_iload_n (q := 17) (f := 3) (i := 3) C (by decide +kernel) rfl rfl rfl ?_
          refine zz_aaload (q := 18) C 4 rfl (by decide) (by decide +kernel) rfl rfl hok.1.2.2.1 rfl (by have := hok.1.2.2.2.2.2.1; omega) (by decide) ((hX.2.1 i (Nat.le_refl _)).trans (hok.2 i hi)) ?_
          refine zz_astore (q := 20) (i := 4) C (by decide +kernel) rfl (by decide) rfl ?_
          refine zz_aload (q := 22) (i := 4) C (by decide +kernel) rfl rfl ?_
          refine zz_aload_n (q := 23) (f := 1) (i := 1) C (by decide +kernel) rfl rfl rfl ?_
          refine zz_callV (q := 26) C (m_S_isInTreeOf l) cv_O_86 (by decide +kernel) rfl rfl rfl (by first | rfl | assumption) (by decide) (by decide) (Nat.le_of_ble_eq_true rfl) ⟨_, _, rfl, or_sm_wf hsm hwf, ?_⟩
          rw [or_sm_lv hsm, or_sm_at hsm]
          refine zz_if_ne (off := 17) (tgt := 43) (q := 29) C (by decide +kernel) (by decide) rfl (fun c26 => ?_) (fun c26 => ?_)
          · refine zz_aload (q := 45) (i := 4) C (by decide +kernel) rfl rfl ?_
            refine zz_getR (q := 48) C gf_O_73 (by decide +kernel) rfl (by first | rfl | assumption) rfl ?_
            refine zz_ifnull (off := 18) (tgt := 66) (q := 51) C (by decide +kernel) (by decide) rfl (fun c48 => ?_) (fun a48 c48 => ?_)
            · refine zz_iinc (q := 69) (i := 3) (n := 1) C (by decide +kernel) rfl rfl (nI_succ _).symm (by decide) rfl ?_
              refine zz_goto (off := -65) (tgt := 4) C (by decide +kernel) (by decide) ?_
              -- AT 4
              first
                | exact ih (i + 1) (by omega) (by omega) _ (q + 1) w _ (by rw [or_kl_out (zz_b_f c26), List.length_append, hq]; rfl) htf (or_J_out hJ (zz_b_f c26)) (or_X_out hX (zz_b_f c26) hq (hok.2 i hi))
                | exact ih (i + 1) (by omega) (by omega) _ q w _ (by rw [or_kl_in (zz_b_t c26)]; exact hq) htf (or_J_none hJ hsy hi (zz_b_t c26) c48) (or_X_in hX (zz_b_t c26))
                | exact ih (i + 1) (by omega) (by omega) _ q (or_w2 w (or_B h a i) a48) _ (by rw [or_kl_in (zz_b_t c26)]; exact hq) (or_tf_2 htf _ _) (or_J_some hJ (zz_b_t c26) c48) (or_X_in hX (zz_b_t c26))
            · refine zz_aload (q := 53) (i := 4) C (by decide +kernel) rfl rfl ?_
              refine zz_getR (q := 56) C gf_O_73 (by decide +kernel) rfl (by first | rfl | assumption) c48 ?_
              refine zz_null (q := 57) C 2 (by decide +kernel) rfl ?_
              refine zz_putR (q := 60) C gf_O_73 (fun h => by cases h) (by decide +kernel) rfl (by first | rfl | assumption) ?_
              refine zz_aload (q := 62) (i := 4) C (by decide +kernel) rfl rfl ?_
              refine zz_null (q := 63) C 2 (by decide +kernel) rfl ?_
              refine zz_putR (q := 66) C gf_O_73 (fun h => by cases h) (by decide +kernel) rfl (by first | rfl | assumption) ?_
              refine zz_iinc (q := 69) (i := 3) (n := 1) C (by decide +kernel) rfl rfl (nI_succ _).symm (by decide) rfl ?_
              refine zz_goto (off := -65) (tgt := 4) C (by decide +kernel) (by decide) ?_
              -- AT 4
              first
                | exact ih (i + 1) (by omega) (by omega) _ (q + 1) w _ (by rw [or_kl_out (zz_b_f c26), List.length_append, hq]; rfl) htf (or_J_out hJ (zz_b_f c26)) (or_X_out hX (zz_b_f c26) hq (hok.2 i hi))
                | exact ih (i + 1) (by omega) (by omega) _ q w _ (by rw [or_kl_in (zz_b_t c26)]; exact hq) htf (or_J_none hJ hsy hi (zz_b_t c26) c48) (or_X_in hX (zz_b_t c26))
                | exact ih (i + 1) (by omega) (by omega) _ q (or_w2 w (or_B h a i) a48) _ (by rw [or_kl_in (zz_b_t c26)]; exact hq) (or_tf_2 htf _ _) (or_J_some hJ (zz_b_t c26) c48) (or_X_in hX (zz_b_t c26))
          · refine zz_aload_n (q := 30) (f := 0) (i := 0) C (by decide +kernel) rfl rfl rfl ?_
            refine zz_getR (q := 33) C gf_O_11 (by decide +kernel) rfl (by first | rfl | assumption) ((htf 5 0 a (by decide)).trans hok.1.1) ?_
            refine zz_iload_n (q := 34) (f := 2) (i := 2) C (by decide +kernel) rfl rfl rfl ?_
            refine zz_aload (q := 36) (i := 4) C (by decide +kernel) rfl rfl ?_
            refine zz_aastore (q := 37) C (ci := 2) 4 rfl rfl (by decide +kernel) rfl rfl hok.1.2.2.1 rfl (by omega) (by decide) ?_
            refine zz_iinc (q := 40) (i := 2) (n := 1) C (by decide +kernel) rfl rfl (nI_succ _).symm (by decide) rfl ?_
            refine zz_goto (off := 26) (tgt := 66) C (by decide +kernel) (by decide) ?_
            refine zz_iinc (q := 69) (i := 3) (n := 1) C (by decide +kernel) rfl rfl (nI_succ _).symm (by decide) rfl ?_
            refine zz_goto (off := -65) (tgt := 4) C (by decide +kernel) (by decide) ?_
            -- AT 4
            first
              | exact ih (i + 1) (by omega) (by omega) _ (q + 1) w _ (by rw [or_kl_out (zz_b_f c26), List.length_append, hq]; rfl) htf (or_J_out hJ (zz_b_f c26)) (or_X_out hX (zz_b_f c26) hq (hok.2 i hi))
              | exact ih (i + 1) (by omega) (by omega) _ q w _ (by rw [or_kl_in (zz_b_t c26)]; exact hq) htf (or_J_none hJ hsy hi (zz_b_t c26) c48) (or_X_in hX (zz_b_t c26))
              | exact ih (i + 1) (by omega) (by omega) _ q (or_w2 w (or_B h a i) a48) _ (by rw [or_kl_in (zz_b_t c26)]; exact hq) (or_tf_2 htf _ _) (or_J_some hJ (zz_b_t c26) c48) (or_X_in hX (zz_b_t c26))
    refine zz_iconst (q := 1) (n := 0) (x := 0) C (by decide +kernel) rfl (by decide +kernel) ?_
    refine zz_istore_n (q := 2) (f := 2) (i := 2) C (by decide +kernel) rfl rfl (by decide) rfl ?_
    refine zz_iconst (q := 3) (n := 0) (x := 0) C (by decide +kernel) rfl (by decide +kernel) ?_
    refine zz_istore_n (q := 4) (f := 3) (i := 3) C (by decide +kernel) rfl rfl (by decide) rfl ?_
    -- AT 4
    exact lp4 (or_s h a + 1) 0 (by omega) (by omega) none 0 (zz_fR h) (zz_aR h) rfl (fun _ _ _ _ => rfl) (fun b => ⟨fun ⟨j, hj, _⟩ => absurd hj (by omega), fun _ => rfl⟩) ⟨fun _ _ _ => rfl, fun _ _ => rfl, fun j hj => absurd hj (Nat.not_lt_zero _)⟩
end
section
/-! constructors -/
def L_nw (h : zz_H) (a w0 w1 w2 : Nat) : zz_H := zz_pR (zz_newA (zz_pR (zz_newA (zz_pR (zz_newA h 90 3 w0) 3 2 a (some w0)) 90 3 w1) 3 3 a (some w1)) 90 3 w2) 3 4 a (some w2)
def L_fr (h : zz_H) (w0 w1 w2 : Nat) : Prop := zz_tg h w0 = none ∧ zz_tg (zz_newA h 90 3 w0) w1 = none ∧ zz_tg (zz_newA (zz_newA h 90 3 w0) 90 3 w1) w2 = none
def T_L_init : zz_Tr := fun as h post => ∃ a, as = [zz_r 3 (some a)] ∧ ∀ w0 w1 w2, L_fr h w0 w1 w2 → post none (L_nw h a w0 w1 w2)
set_option maxRecDepth 100000 in
set_option maxHeartbeats 4000000 in
theorem m_L_init (l : Launch) : zz_Met l y_L_init w_L_init { frames := 1, cells := 3, slots := 9, locals := 12 } T_L_init := by
  refine zz_ofZ (by decide) (fun as h post hT => ?_) ?_
  · obtain ⟨a, rfl, hp⟩ := hT
    exact ⟨by simp [zz_cat], by simp⟩
  · intro D DA h as post hT p e s m args below meth c Q C hr hlk hnm hQ
    obtain ⟨a, rfl, hp⟩ := hT
    refine zz_aload_n (q := 1) (f := 0) (i := 0) C (by decide +kernel) rfl rfl rfl ?_
    refine zz_objInit (q := 4) C ol_L_3 zw_oi zw_oc (by decide +kernel) rfl (by first | rfl | assumption) (by decide) (by decide) ?_
    refine zz_aload_n (q := 5) (f := 0) (i := 0) C (by decide +kernel) rfl rfl rfl ?_
    refine zz_iconst (q := 6) (n := 3) (x := 3) C (by decide +kernel) rfl (by decide +kernel) ?_
    refine zz_newI (q := 8) (at9 := .int) (N := 3) C rfl an_a_I (by decide +kernel) (by decide) (by decide +kernel) rfl (by decide) (by decide) (fun a6 n6 => ?_)
    refine zz_putR (q := 11) C gf_L_9 (fun _ => ⟨hnm, fun _ _ _ h => by cases h; rfl⟩) (by decide +kernel) rfl (by first | rfl | assumption) ?_
    refine zz_aload_n (q := 12) (f := 0) (i := 0) C (by decide +kernel) rfl rfl rfl ?_
    refine zz_iconst (q := 13) (n := 3) (x := 3) C (by decide +kernel) rfl (by decide +kernel) ?_
    refine zz_newI (q := 15) (at9 := .int) (N := 3) C rfl an_a_I (by decide +kernel) (by decide) (by decide +kernel) rfl (by decide) (by decide) (fun a13 n13 => ?_)
    refine zz_putR (q := 18) C gf_L_15 (fun _ => ⟨hnm, fun _ _ _ h => by cases h; rfl⟩) (by decide +kernel) rfl (by first | rfl | assumption) ?_
    refine zz_aload_n (q := 19) (f := 0) (i := 0) C (by decide +kernel) rfl rfl rfl ?_
    refine zz_iconst (q := 20) (n := 3) (x := 3) C (by decide +kernel) rfl (by decide +kernel) ?_
    refine zz_newI (q := 22) (at9 := .int) (N := 3) C rfl an_a_I (by decide +kernel) (by decide) (by decide +kernel) rfl (by decide) (by decide) (fun a20 n20 => ?_)
    refine zz_putR (q := 25) C gf_L_18 (fun _ => ⟨hnm, fun _ _ _ h => by cases h; rfl⟩) (by decide +kernel) rfl (by first | rfl | assumption) ?_
    refine zz_vret C hr hlk (by decide +kernel) hQ (by decide) (by decide) ?_
    exact hp a6 a13 a20 ⟨n6, n13, n20⟩

/-- one more level of a path -/
def P_st (h : zz_H) (b i : Nat) (h2 : zz_H) : Prop := ∃ a w0 w1 w2, zz_tg h a = none ∧ L_fr (zz_new h 3 a) w0 w1 w2 ∧ h2 = zz_sR (L_nw (zz_new h 3 a) a w0 w1 w2) b i (some a)
theorem zz_tg_ne {h : zz_H} {b w : Nat} {t : Nat × Nat} (ht : zz_tg h b = some t) (hw : zz_tg h w = none) : b ≠ w := fun z => by rw [z, hw] at ht; cases ht
theorem zz_tg_old {h : zz_H} {b w ty n : Nat} {t : Nat × Nat} (ht : zz_tg h b = some t) (hw : zz_tg h w = none) : zz_tg (zz_newA h ty n w) b = some t := by
  rw [zz_tg_newA, if_neg (zz_tg_ne ht hw)]; exact ht
theorem zz_tg_oldO {h : zz_H} {b w ci : Nat} {t : Nat × Nat} (ht : zz_tg h b = some t) (hw : zz_tg h w = none) : zz_tg (zz_new h ci w) b = some t := by
  rw [zz_tg_new, if_neg (zz_tg_ne ht hw)]; exact ht
theorem L_nw_t {h : zz_H} {a w0 w1 w2 b : Nat} {t : Nat × Nat} (hf : L_fr h w0 w1 w2) (ht : zz_tg h b = some t) : zz_tg (L_nw h a w0 w1 w2) b = some t :=
  zz_tg_old (h := zz_pR (zz_newA (zz_pR (zz_newA h 90 3 w0) 3 2 a (some w0)) 90 3 w1) 3 3 a (some w1)) (zz_tg_old (h := zz_pR (zz_newA h 90 3 w0) 3 2 a (some w0)) (zz_tg_old ht hf.1) hf.2.1) hf.2.2
theorem P_st_t {h h2 : zz_H} {b i c : Nat} {t : Nat × Nat} (hs : P_st h b i h2) (ht : zz_tg h c = some t) : zz_tg h2 c = some t := by
  obtain ⟨a, w0, w1, w2, h1, h2, rfl⟩ := hs
  exact L_nw_t h2 (zz_tg_oldO ht h1)
theorem P_st_f {h h2 : zz_H} {b i : Nat} (hs : P_st h b i h2) : zz_fR h2 4 = zz_fR h 4 := by
  obtain ⟨a, w0, w1, w2, h1, h2, rfl⟩ := hs
  funext j c
  rfl
def T_P_init : zz_Tr := fun as h post => ∃ a, as = [zz_r 4 (some a)] ∧ ∀ b h1 h2 h3 h4, zz_tg h b = none → P_st (zz_pR (zz_newA h 103 4 b) 4 0 a (some b)) b 0 h1 → P_st h1 b 1 h2 → P_st h2 b 2 h3 → P_st h3 b 3 h4 → post none h4
set_option maxRecDepth 100000 in
set_option maxHeartbeats 4000000 in
theorem m_P_init (l : Launch) : zz_Met l y_P_init w_P_init { frames := 2, cells := 17, slots := 60, locals := 32 } T_P_init := by
  refine zz_ofZ (by decide) (fun as h post hT => ?_) ?_
  · obtain ⟨a, rfl, hp⟩ := hT
    exact ⟨by simp [zz_cat], by simp⟩
  · intro D DA h as post hT p e s m args below meth c Q C hr hlk hnm hQ
    obtain ⟨a, rfl, hp⟩ := hT
    refine zz_aload_n (q := 1) (f := 0) (i := 0) C (by decide +kernel) rfl rfl rfl ?_
    refine zz_objInit (q := 4) C ol_P_3 zw_oi zw_oc (by decide +kernel) rfl (by first | rfl | assumption) (by decide) (by decide) ?_
    refine zz_aload_n (q := 5) (f := 0) (i := 0) C (by decide +kernel) rfl rfl rfl ?_
    refine zz_iconst (q := 6) (n := 4) (x := 4) C (by decide +kernel) rfl (by decide +kernel) ?_
    refine zz_newR (q := 9) (ci := 3) (N := 4) C 5 rfl kl_P_9 an_o_objectSegmentTreesPathLevel (by decide +kernel) (by decide) (by decide +kernel) rfl (by decide) (by decide) (fun a6 n6 => ?_)
    refine zz_putR (q := 12) C gf_P_11 (fun _ => ⟨hnm, fun _ _ _ h => by cases h; rfl⟩) (by decide +kernel) rfl (by first | rfl | assumption) ?_
    refine zz_iconst (q := 13) (n := 0) (x := 0) C (by decide +kernel) rfl (by decide +kernel) ?_
    refine zz_istore_n (q := 14) (f := 1) (i := 1) C (by decide +kernel) rfl rfl (by decide) rfl ?_
    have t0 : zz_tg (zz_pR (zz_newA h 103 4 a6) 4 0 a (some a6)) a6 = some (103, 4) := if_pos rfl
    have f0 : zz_fR (zz_pR (zz_newA h 103 4 a6) 4 0 a (some a6)) 4 0 a = some a6 := if_pos ⟨rfl, rfl, rfl⟩
    revert t0 f0
    have hp0 := fun h1 h2 h3 h4 => hp a6 h1 h2 h3 h4 n6
    revert hp0
    generalize zz_pR (zz_newA h 103 4 a6) 4 0 a (some a6) = g0
    intro hp0 t0 f0
    refine zz_iload_n (q := 15) (f := 1) (i := 1) C (by decide +kernel) rfl rfl rfl ?_
    refine zz_iconst (q := 16) (n := 4) (x := 4) C (by decide +kernel) rfl (by decide +kernel) ?_
    refine zz_icmp_ge (off := 22) (tgt := 38) (q := 19) C (by decide +kernel) (by decide) rfl (fun c16 => absurd c16 (by decide)) (fun c16 => ?_)
    refine zz_aload_n (q := 20) (f := 0) (i := 0) C (by decide +kernel) rfl rfl rfl ?_
    refine zz_getR (q := 23) C gf_P_11 (by decide +kernel) rfl (by first | rfl | assumption) f0 ?_
    refine zz_iload_n (q := 24) (f := 1) (i := 1) C (by decide +kernel) rfl rfl rfl ?_
    refine zz_newO (q := 27) (ci := 3) C rfl kl_P_9 ni_L nj_L (by decide +kernel) rfl (by decide) (by decide) (fun a24 n24 => ?_)
    refine zz_dup (q := 28) C (by decide +kernel) rfl rfl ?_
    refine zz_callN (q := 31) C (m_L_init l) cn_P_17 (by decide +kernel) rfl rfl rfl (by first | rfl | assumption) (by decide) (by decide) (Nat.le_of_ble_eq_true rfl) ⟨_, rfl, fun w0 w1 w2 hfr => ?_⟩
    refine zz_aastore (q := 32) C (ci := 3) 5 rfl rfl (by decide +kernel) rfl rfl (L_nw_t hfr (zz_tg_oldO t0 n24)) (j := 0) (by decide) (by decide) (by decide) ?_
    refine zz_iinc (q := 35) (i := 1) (n := 1) C (by decide +kernel) rfl rfl (y := 1) (by decide) (by decide) rfl ?_
    have st0 : P_st g0 a6 0 (zz_sR (L_nw (zz_new g0 3 a24) a24 w0 w1 w2) a6 0 (some a24)) := ⟨a24, w0, w1, w2, n24, hfr, rfl⟩
    have t1 := P_st_t st0 t0
    have f1 := (congrFun (congrFun (P_st_f st0) 0) a).trans f0
    revert st0 t1 f1
    generalize zz_sR (L_nw (zz_new g0 3 a24) a24 w0 w1 w2) a6 0 (some a24) = g1
    intro st0 t1 f1
    refine zz_goto (off := -21) (tgt := 14) C (by decide +kernel) (by decide) ?_
    refine zz_iload_n (q := 15) (f := 1) (i := 1) C (by decide +kernel) rfl rfl rfl ?_
    refine zz_iconst (q := 16) (n := 4) (x := 4) C (by decide +kernel) rfl (by decide +kernel) ?_
    refine zz_icmp_ge (off := 22) (tgt := 38) (q := 19) C (by decide +kernel) (by decide) rfl (fun c16 => absurd c16 (by decide)) (fun c16 => ?_)
    refine zz_aload_n (q := 20) (f := 0) (i := 0) C (by decide +kernel) rfl rfl rfl ?_
    refine zz_getR (q := 23) C gf_P_11 (by decide +kernel) rfl (by first | rfl | assumption) f1 ?_
    refine zz_iload_n (q := 24) (f := 1) (i := 1) C (by decide +kernel) rfl rfl rfl ?_
    refine zz_newO (q := 27) (ci := 3) C rfl kl_P_9 ni_L nj_L (by decide +kernel) rfl (by decide) (by decide) (fun a24 n24 => ?_)
    refine zz_dup (q := 28) C (by decide +kernel) rfl rfl ?_
    refine zz_callN (q := 31) C (m_L_init l) cn_P_17 (by decide +kernel) rfl rfl rfl (by first | rfl | assumption) (by decide) (by decide) (Nat.le_of_ble_eq_true rfl) ⟨_, rfl, fun w0 w1 w2 hfr => ?_⟩
    refine zz_aastore (q := 32) C (ci := 3) 5 rfl rfl (by decide +kernel) rfl rfl (L_nw_t hfr (zz_tg_oldO t1 n24)) (j := 1) (by decide) (by decide) (by decide) ?_
    refine zz_iinc (q := 35) (i := 1) (n := 1) C (by decide +kernel) rfl rfl (y := 2) (by decide) (by decide) rfl ?_
    have st1 : P_st g1 a6 1 (zz_sR (L_nw (zz_new g1 3 a24) a24 w0 w1 w2) a6 1 (some a24)) := ⟨a24, w0, w1, w2, n24, hfr, rfl⟩
    have t2 := P_st_t st1 t1
    have f2 := (congrFun (congrFun (P_st_f st1) 0) a).trans f1
    revert st1 t2 f2
    generalize zz_sR (L_nw (zz_new g1 3 a24) a24 w0 w1 w2) a6 1 (some a24) = g2
    intro st1 t2 f2
    refine zz_goto (off := -21) (tgt := 14) C (by decide +kernel) (by decide) ?_
    refine zz_iload_n (q := 15) (f := 1) (i := 1) C (by decide +kernel) rfl rfl rfl ?_
    refine zz_iconst (q := 16) (n := 4) (x := 4) C (by decide +kernel) rfl (by decide +kernel) ?_
    refine zz_icmp_ge (off := 22) (tgt := 38) (q := 19) C (by decide +kernel) (by decide) rfl (fun c16 => absurd c16 (by decide)) (fun c16 => ?_)
    refine zz_aload_n (q := 20) (f := 0) (i := 0) C (by decide +kernel) rfl rfl rfl ?_
    refine zz_getR (q := 23) C gf_P_11 (by decide +kernel) rfl (by first | rfl | assumption) f2 ?_
    refine zz_iload_n (q := 24) (f := 1) (i := 1) C (by decide +kernel) rfl rfl rfl ?_
    refine zz_newO (q := 27) (ci := 3) C rfl kl_P_9 ni_L nj_L (by decide +kernel) rfl (by decide) (by decide) (fun a24 n24 => ?_)
    refine zz_dup (q := 28) C (by decide +kernel) rfl rfl ?_
    refine zz_callN (q := 31) C (m_L_init l) cn_P_17 (by decide +kernel) rfl rfl rfl (by first | rfl | assumption) (by decide) (by decide) (Nat.le_of_ble_eq_true rfl) ⟨_, rfl, fun w0 w1 w2 hfr => ?_⟩
    refine zz_aastore (q := 32) C (ci := 3) 5 rfl rfl (by decide +kernel) rfl rfl (L_nw_t hfr (zz_tg_oldO t2 n24)) (j := 2) (by decide) (by decide) (by decide) ?_
    refine zz_iinc (q := 35) (i := 1) (n := 1) C (by decide +kernel) rfl rfl (y := 3) (by decide) (by decide) rfl ?_
    have st2 : P_st g2 a6 2 (zz_sR (L_nw (zz_new g2 3 a24) a24 w0 w1 w2) a6 2 (some a24)) := ⟨a24, w0, w1, w2, n24, hfr, rfl⟩
    have t3 := P_st_t st2 t2
    have f3 := (congrFun (congrFun (P_st_f st2) 0) a).trans f2
    revert st2 t3 f3
    generalize zz_sR (L_nw (zz_new g2 3 a24) a24 w0 w1 w2) a6 2 (some a24) = g3
    intro st2 t3 f3
    refine zz_goto (off := -21) (tgt := 14) C (by decide +kernel) (by decide) ?_
    refine zz_iload_n (q := 15) (f := 1) (i := 1) C (by decide +kernel) rfl rfl rfl ?_
    refine zz_iconst (q := 16) (n := 4) (x := 4) C (by decide +kernel) rfl (by decide +kernel) ?_
    refine zz_icmp_ge (off := 22) (tgt := 38) (q := 19) C (by decide +kernel) (by decide) rfl (fun c16 => absurd c16 (by decide)) (fun c16 => ?_)
    refine zz_aload_n (q := 20) (f := 0) (i := 0) C (by decide +kernel) rfl rfl rfl ?_
    refine zz_getR (q := 23) C gf_P_11 (by decide +kernel) rfl (by first | rfl | assumption) f3 ?_
    refine zz_iload_n (q := 24) (f := 1) (i := 1) C (by decide +kernel) rfl rfl rfl ?_
    refine zz_newO (q := 27) (ci := 3) C rfl kl_P_9 ni_L nj_L (by decide +kernel) rfl (by decide) (by decide) (fun a24 n24 => ?_)
    refine zz_dup (q := 28) C (by decide +kernel) rfl rfl ?_
    refine zz_callN (q := 31) C (m_L_init l) cn_P_17 (by decide +kernel) rfl rfl rfl (by first | rfl | assumption) (by decide) (by decide) (Nat.le_of_ble_eq_true rfl) ⟨_, rfl, fun w0 w1 w2 hfr => ?_⟩
    refine zz_aastore (q := 32) C (ci := 3) 5 rfl rfl (by decide +kernel) rfl rfl (L_nw_t hfr (zz_tg_oldO t3 n24)) (j := 3) (by decide) (by decide) (by decide) ?_
    refine zz_iinc (q := 35) (i := 1) (n := 1) C (by decide +kernel) rfl rfl (y := 4) (by decide) (by decide) rfl ?_
    have st3 : P_st g3 a6 3 (zz_sR (L_nw (zz_new g3 3 a24) a24 w0 w1 w2) a6 3 (some a24)) := ⟨a24, w0, w1, w2, n24, hfr, rfl⟩
    have t4 := P_st_t st3 t3
    have f4 := (congrFun (congrFun (P_st_f st3) 0) a).trans f3
    revert st3 t4 f4
    generalize zz_sR (L_nw (zz_new g3 3 a24) a24 w0 w1 w2) a6 3 (some a24) = g4
    intro st3 t4 f4
    refine zz_goto (off := -21) (tgt := 14) C (by decide +kernel) (by decide) ?_
    refine zz_iload_n (q := 15) (f := 1) (i := 1) C (by decide +kernel) rfl rfl rfl ?_
    refine zz_iconst (q := 16) (n := 4) (x := 4) C (by decide +kernel) rfl (by decide +kernel) ?_
    refine zz_icmp_ge (off := 22) (tgt := 38) (q := 19) C (by decide +kernel) (by decide) rfl (fun c16 => ?_) (fun c16 => absurd (by decide) c16)
    refine zz_vret C hr hlk (by decide +kernel) hQ (by decide) (by decide) ?_
    exact hp0 _ _ _ _ st0 st1 st2 st3

def O_nw (h : zz_H) (a b n : Nat) : zz_H := zz_pR (zz_newA (zz_pR (zz_newA h 102 60 b) 5 0 a (some b)) 102 60 n) 5 1 a (some n)
def T_O_init : zz_Tr := fun as h post => ∃ a, as = [zz_r 5 (some a)] ∧ ∀ b n, zz_tg h b = none → zz_tg (zz_newA h 102 60 b) n = none → post none (O_nw h a b n)
set_option maxRecDepth 100000 in
set_option maxHeartbeats 4000000 in
theorem m_O_init (l : Launch) : zz_Met l y_O_init w_O_init { frames := 1, cells := 2, slots := 120, locals := 12 } T_O_init := by
  refine zz_ofZ (by decide) (fun as h post hT => ?_) ?_
  · obtain ⟨a, rfl, hp⟩ := hT
    exact ⟨by simp [zz_cat], by simp⟩
  · intro D DA h as post hT p e s m args below meth c Q C hr hlk hnm hQ
    obtain ⟨a, rfl, hp⟩ := hT
    refine zz_aload_n (q := 1) (f := 0) (i := 0) C (by decide +kernel) rfl rfl rfl ?_
    refine zz_objInit (q := 4) C ol_O_3 zw_oi zw_oc (by decide +kernel) rfl (by first | rfl | assumption) (by decide) (by decide) ?_
    refine zz_aload_n (q := 5) (f := 0) (i := 0) C (by decide +kernel) rfl rfl rfl ?_
    refine zz_bipush (q := 7) (n := 60) (x := 60) C (by decide +kernel) rfl (by decide +kernel) ?_
    refine zz_newR (q := 10) (ci := 2) (N := 60) C 4 rfl kl_O_9 an_o_objectSegmentTreesSegment (by decide +kernel) (by decide) (by decide +kernel) rfl (by decide) (by decide) (fun a7 n7 => ?_)
    refine zz_putR (q := 13) C gf_O_11 (fun _ => ⟨hnm, fun _ _ _ h => by cases h; rfl⟩) (by decide +kernel) rfl (by first | rfl | assumption) ?_
    refine zz_aload_n (q := 14) (f := 0) (i := 0) C (by decide +kernel) rfl rfl rfl ?_
    refine zz_bipush (q := 16) (n := 60) (x := 60) C (by decide +kernel) rfl (by decide +kernel) ?_
    refine zz_newR (q := 19) (ci := 2) (N := 60) C 4 rfl kl_O_9 an_o_objectSegmentTreesSegment (by decide +kernel) (by decide) (by decide +kernel) rfl (by decide) (by decide) (fun a16 n16 => ?_)
    refine zz_putR (q := 22) C gf_O_17 (fun _ => ⟨hnm, fun _ _ _ h => by cases h; rfl⟩) (by decide +kernel) rfl (by first | rfl | assumption) ?_
    refine zz_vret C hr hlk (by decide +kernel) hQ (by decide) (by decide) ?_
    exact hp a7 a16 n7 n16

def T_Q_init : zz_Tr := fun as h post => ∃ a, as = [zz_r 6 (some a)] ∧ post none h
set_option maxRecDepth 100000 in
set_option maxHeartbeats 4000000 in
theorem m_Q_init (l : Launch) : zz_Met l y_Q_init w_Q_init { frames := 1, cells := 0, slots := 0, locals := 12 } T_Q_init := by
  refine zz_ofZ (by decide) (fun as h post hT => ?_) ?_
  · obtain ⟨a, rfl, hp⟩ := hT
    exact ⟨by simp [zz_cat], by simp⟩
  · intro D DA h as post hT p e s m args below meth c Q C hr hlk hnm hQ
    obtain ⟨a, rfl, hp⟩ := hT
    refine zz_aload_n (q := 1) (f := 0) (i := 0) C (by decide +kernel) rfl rfl rfl ?_
    refine zz_objInit (q := 4) C ol_Q_1 zw_oi zw_oc (by decide +kernel) rfl (by first | rfl | assumption) (by decide) (by decide) ?_
    refine zz_vret C hr hlk (by decide +kernel) hQ (by decide) (by decide) ?_
    exact hp

def T_n1 (h : zz_H) (a k w p : Nat) : zz_H := zz_new (zz_pR (zz_newA (zz_pR (zz_newA h 101 8 k) 0 0 a (some k)) 90 4 w) 0 1 a (some w)) 4 p
def T_nw (h : zz_H) (a : Nat) (h9 : zz_H) : Prop := ∃ k w p b h1 h2 h3 h4 od ob on ps, zz_tg h k = none ∧ zz_tg (zz_newA h 101 8 k) w = none ∧ zz_tg (zz_newA (zz_newA h 101 8 k) 90 4 w) p = none ∧ zz_tg (T_n1 h a k w p) b = none ∧ P_st (zz_pR (zz_newA (T_n1 h a k w p) 103 4 b) 4 0 p (some b)) b 0 h1 ∧ P_st h1 b 1 h2 ∧ P_st h2 b 2 h3 ∧ P_st h3 b 3 h4 ∧ zz_tg h4 od = none ∧ zz_tg (zz_new h4 5 od) ob = none ∧ zz_tg (zz_newA (zz_new h4 5 od) 102 60 ob) on = none ∧ zz_tg (O_nw (zz_new (zz_pR h4 0 2 a (some p)) 5 od) od ob on) ps = none ∧ h9 = zz_pR (zz_new (zz_pR (O_nw (zz_new (zz_pR h4 0 2 a (some p)) 5 od) od ob on) 0 3 a (some od)) 6 ps) 0 4 a (some ps)
def T_T_init : zz_Tr := fun as h post => ∃ a, as = [zz_r 0 (some a)] ∧ ∀ h9, T_nw h a h9 → post none h9
set_option maxRecDepth 100000 in
set_option maxHeartbeats 4000000 in
theorem m_T_init (l : Launch) : zz_Met l y_T_init w_T_init { frames := 3, cells := 24, slots := 202, locals := 53 } T_T_init := by
  refine zz_ofZ (by decide) (fun as h post hT => ?_) ?_
  · obtain ⟨a, rfl, hp⟩ := hT
    exact ⟨by simp [zz_cat], by simp⟩
  · intro D DA h as post hT p e s m args below meth c Q C hr hlk hnm hQ
    obtain ⟨a, rfl, hp⟩ := hT
    refine zz_aload_n (q := 1) (f := 0) (i := 0) C (by decide +kernel) rfl rfl rfl ?_
    refine zz_objInit (q := 4) C ol_T_1 zw_oi zw_oc (by decide +kernel) rfl (by first | rfl | assumption) (by decide) (by decide) ?_
    refine zz_aload_n (q := 5) (f := 0) (i := 0) C (by decide +kernel) rfl rfl rfl ?_
    refine zz_bipush (q := 7) (n := 8) (x := 8) C (by decide +kernel) rfl (by decide +kernel) ?_
    refine zz_newR (q := 10) (ci := 1) (N := 8) C 3 rfl kl_T_9 an_o_objectSegmentTreesKind (by decide +kernel) (by decide) (by decide +kernel) rfl (by decide) (by decide) (fun a7 n7 => ?_)
    refine zz_putR (q := 13) C gf_T_11 (fun _ => ⟨hnm, fun _ _ _ h => by cases h; rfl⟩) (by decide +kernel) rfl (by first | rfl | assumption) ?_
    refine zz_aload_n (q := 14) (f := 0) (i := 0) C (by decide +kernel) rfl rfl rfl ?_
    refine zz_iconst (q := 15) (n := 4) (x := 4) C (by decide +kernel) rfl (by decide +kernel) ?_
    refine zz_newI (q := 17) (at9 := .int) (N := 4) C rfl an_a_I (by decide +kernel) (by decide) (by decide +kernel) rfl (by decide) (by decide) (fun a15 n15 => ?_)
    refine zz_putR (q := 20) C gf_T_15 (fun _ => ⟨hnm, fun _ _ _ h => by cases h; rfl⟩) (by decide +kernel) rfl (by first | rfl | assumption) ?_
    refine zz_aload_n (q := 21) (f := 0) (i := 0) C (by decide +kernel) rfl rfl rfl ?_
    refine zz_newO (q := 24) (ci := 4) C rfl kl_T_19 ni_P nj_P (by decide +kernel) rfl (by decide) (by decide) (fun a21 n21 => ?_)
    refine zz_dup (q := 25) C (by decide +kernel) rfl rfl ?_
    refine zz_callI (q := 28) C (m_P_init l) ci_T_21 (by decide +kernel) rfl rfl rfl (by first | rfl | assumption) (by decide) (by decide) (Nat.le_of_ble_eq_true rfl) ⟨_, rfl, fun b h1 h2 h3 h4 hb s1 s2 s3 s4 => ?_⟩
    refine zz_putR (q := 31) C gf_T_22 (fun _ => ⟨hnm, fun _ _ _ h => by cases h; rfl⟩) (by decide +kernel) rfl (by first | rfl | assumption) ?_
    refine zz_aload_n (q := 32) (f := 0) (i := 0) C (by decide +kernel) rfl rfl rfl ?_
    refine zz_newO (q := 35) (ci := 5) C rfl kl_T_26 ni_O nj_O (by decide +kernel) rfl (by decide) (by decide) (fun a32 n32 => ?_)
    refine zz_dup (q := 36) C (by decide +kernel) rfl rfl ?_
    refine zz_callN (q := 39) C (m_O_init l) cn_T_28 (by decide +kernel) rfl rfl rfl (by first | rfl | assumption) (by decide) (by decide) (Nat.le_of_ble_eq_true rfl) ⟨_, rfl, fun ob on o1 o2 => ?_⟩
    refine zz_putR (q := 42) C gf_T_29 (fun _ => ⟨hnm, fun _ _ _ h => by cases h; rfl⟩) (by decide +kernel) rfl (by first | rfl | assumption) ?_
    refine zz_aload_n (q := 43) (f := 0) (i := 0) C (by decide +kernel) rfl rfl rfl ?_
    refine zz_newO (q := 46) (ci := 6) C rfl kl_T_33 ni_Q nj_Q (by decide +kernel) rfl (by decide) (by decide) (fun a43 n43 => ?_)
    refine zz_dup (q := 47) C (by decide +kernel) rfl rfl ?_
    refine zz_callN (q := 50) C (m_Q_init l) cn_T_35 (by decide +kernel) rfl rfl rfl (by first | rfl | assumption) (by decide) (by decide) (Nat.le_of_ble_eq_true rfl) ⟨_, rfl, ?_⟩
    refine zz_putR (q := 53) C gf_T_36 (fun _ => ⟨hnm, fun _ _ _ h => by cases h; rfl⟩) (by decide +kernel) rfl (by first | rfl | assumption) ?_
    refine zz_vret C hr hlk (by decide +kernel) hQ (by decide) (by decide) ?_
    exact hp _ ⟨a7, a15, a21, b, h1, h2, h3, h4, a32, ob, on, a43, n7, n15, n21, hb, s1, s2, s3, s4, n32, o1, o2, n43, rfl⟩
end
section
/-! SegmentTrees: helpers -/
def t_kd (h : zz_H) (a : Nat) : Nat := (zz_fR h 0 0 a).getD 0
def t_ww (h : zz_H) (a : Nat) : Nat := (zz_fR h 0 1 a).getD 0
def t_pa (h : zz_H) (a : Nat) : Nat := (zz_fR h 0 2 a).getD 0
def t_od (h : zz_H) (a : Nat) : Nat := (zz_fR h 0 3 a).getD 0
def t_ps (h : zz_H) (a : Nat) : Nat := (zz_fR h 0 4 a).getD 0
def t_ok (h : zz_H) (a : Nat) : Prop := zz_fR h 0 0 a = some (t_kd h a) ∧ zz_fR h 0 1 a = some (t_ww h a) ∧ zz_fR h 0 2 a = some (t_pa h a) ∧ zz_fR h 0 3 a = some (t_od h a) ∧ zz_fR h 0 4 a = some (t_ps h a) ∧ zz_tg h (t_kd h a) = some (101, 8) ∧ zz_tg h (t_ww h a) = some (90, 4)
def t_k (h : zz_H) (a : Nat) (t : Int32) : Option Nat := if 0 ≤ t ∧ t < 8 then zz_aR h (t_kd h a) t.toNatClampNeg else none
theorem nI_8 : (8 : Int32) = nI 8 := rfl
theorem nI_in9 {t b : Int32} {n : Nat} (hb : b = nI n) (hn : n < 2 ^ 31) (h0 : ¬ t < 0) (h8 : t < b) : t.toNatClampNeg < n ∧ t = nI t.toNatClampNeg := by
  obtain ⟨j, hj, rfl⟩ := nI_of h0
  rw [hb] at h8
  rw [nI_clamp hj]
  exact ⟨(nI_ltI hj hn).mp h8, rfl⟩
def t_gt (h : zz_H) (a s : Nat) (hd : Int32) : zz_H := if hd = 0 then zz_pI (zz_pI (zz_pR h 6 0 (t_ps h a) (some s)) 6 1 (t_ps h a) 1) 6 2 (t_ps h a) 0 else zz_pR (zz_pI (zz_pI (zz_pR h 6 0 (t_ps h a) (some s)) 6 1 (t_ps h a) 1) 6 2 (t_ps h a) 0) 0 5 a (some s)
def t_nb (h : zz_H) (s : Option Nat) : Int32 := match s with
  | none => 0
  | some x => zz_fI h 2 0 x
def t_wq (h : zz_H) (s : Nat) (w : Int32) : Int32 := if 10 ≤ w ∧ 0 ≤ w - 10 ∧ w - 10 < zz_fI h 1 3 (sg_k h s) then zz_aI h (sg_w h s) (w - 10).toNatClampNeg else -1
def t_jn (h : zz_H) (a f s : Nat) : zz_H := zz_pR (zz_pR (zz_uI h (sg_w h s) (fun j => if j < kd_ln h (sg_k h s) then zz_aI h (t_ww h a) j else zz_aI h (sg_w h s) j)) 2 4 s (some f)) 2 4 f (some s)
/-- nothing is held -/
def t_h0 (h : zz_H) (a : Nat) : zz_H := zz_pR h 0 5 a none
def T_T_kindOf : zz_Tr := fun as h post => ∃ a t, as = [zz_r 0 (some a), zz_i t] ∧ t_ok h a ∧ post (some (zz_r 1 (t_k h a t))) h
set_option maxRecDepth 100000 in
set_option maxHeartbeats 4000000 in
theorem m_T_kindOf (l : Launch) : zz_Met l y_T_kindOf w_T_kindOf { frames := 1, cells := 0, slots := 0, locals := 12 } T_T_kindOf := by
  refine zz_ofZ (by decide) (fun as h post hT => ?_) ?_
  · obtain ⟨a, t, rfl, hok, hp⟩ := hT
    exact ⟨by simp [zz_cat], by simp⟩
  · intro D DA h as post hT p e s m args below meth c Q C hr hlk hnm hQ
    obtain ⟨a, t, rfl, hok, hp⟩ := hT
    refine zz_iload_n (q := 1) (f := 1) (i := 1) C (by decide +kernel) rfl rfl rfl ?_
    refine zz_if_lt (off := 9) (tgt := 10) (q := 4) C (by decide +kernel) (by decide) rfl (fun c1 => ?_) (fun c1 => ?_)
    · refine zz_null (q := 11) C 1 (by decide +kernel) rfl ?_
      refine zz_goto (off := 9) (tgt := 20) C (by decide +kernel) (by decide) ?_
      refine zz_aret C hr (Or.inl ⟨_, rfl⟩) hlk (by decide +kernel) hQ (by decide) (by decide) ?_
      first
        | (rw [show t_k h a t = none from if_neg (fun z => absurd c1 (Int32.not_lt.mpr z.1))] at hp; exact hp)
        | (rw [show t_k h a t = zz_aR h (t_kd h a) t.toNatClampNeg from if_pos ⟨Int32.not_lt.mp c1, c7⟩] at hp; exact hp)
        | (rw [show t_k h a t = none from if_neg (fun z => absurd z.2 c7)] at hp; exact hp)
    · refine zz_iload_n (q := 5) (f := 1) (i := 1) C (by decide +kernel) rfl rfl rfl ?_
      refine zz_bipush (q := 7) (n := 8) (x := 8) C (by decide +kernel) rfl (by decide +kernel) ?_
      refine zz_icmp_lt (off := 7) (tgt := 14) (q := 10) C (by decide +kernel) (by decide) rfl (fun c7 => ?_) (fun c7 => ?_)
      · have h9 := nI_in9 nI_8 (by decide) c1 c7
        refine zz_aload_n (q := 15) (f := 0) (i := 0) C (by decide +kernel) rfl rfl rfl ?_
        refine zz_getR (q := 18) C gf_T_11 (by decide +kernel) rfl (by first | rfl | assumption) hok.1 ?_
        refine zz_iload_n (q := 19) (f := 1) (i := 1) C (by decide +kernel) rfl rfl rfl ?_
        refine zz_aaload (q := 20) C 3 rfl (by decide) (by decide +kernel) rfl rfl hok.2.2.2.2.2.1 h9.2 h9.1 (by decide) rfl ?_
        refine zz_aret C hr (Or.inl ⟨_, rfl⟩) hlk (by decide +kernel) hQ (by decide) (by decide) ?_
        first
          | (rw [show t_k h a t = none from if_neg (fun z => absurd c1 (Int32.not_lt.mpr z.1))] at hp; exact hp)
          | (rw [show t_k h a t = zz_aR h (t_kd h a) t.toNatClampNeg from if_pos ⟨Int32.not_lt.mp c1, c7⟩] at hp; exact hp)
          | (rw [show t_k h a t = none from if_neg (fun z => absurd z.2 c7)] at hp; exact hp)
      · refine zz_null (q := 11) C 1 (by decide +kernel) rfl ?_
        refine zz_goto (off := 9) (tgt := 20) C (by decide +kernel) (by decide) ?_
        refine zz_aret C hr (Or.inl ⟨_, rfl⟩) hlk (by decide +kernel) hQ (by decide) (by decide) ?_
        first
          | (rw [show t_k h a t = none from if_neg (fun z => absurd c1 (Int32.not_lt.mpr z.1))] at hp; exact hp)
          | (rw [show t_k h a t = zz_aR h (t_kd h a) t.toNatClampNeg from if_pos ⟨Int32.not_lt.mp c1, c7⟩] at hp; exact hp)
          | (rw [show t_k h a t = none from if_neg (fun z => absurd z.2 c7)] at hp; exact hp)

def T_T_got : zz_Tr := fun as h post => ∃ a f hd, as = [zz_r 0 (some a), zz_r 2 f, zz_i hd] ∧ t_ok h a ∧ (f = none → post (some (zz_i 0)) h) ∧ (∀ s, f = some s → post (some (zz_i (zz_fI h 2 0 s))) (t_gt h a s hd))
set_option maxRecDepth 100000 in
set_option maxHeartbeats 4000000 in
theorem m_T_got (l : Launch) : zz_Met l y_T_got w_T_got { frames := 2, cells := 0, slots := 0, locals := 33 } T_T_got := by
  refine zz_ofZ (by decide) (fun as h post hT => ?_) ?_
  · obtain ⟨a, f, hd, rfl, hok, hp0, hp1⟩ := hT
    exact ⟨by simp [zz_cat], by simp⟩
  · intro D DA h as post hT p e s m args below meth c Q C hr hlk hnm hQ
    obtain ⟨a, f, hd, rfl, hok, hp0, hp1⟩ := hT
    refine zz_aload_n (q := 1) (f := 1) (i := 1) C (by decide +kernel) rfl rfl rfl ?_
    refine zz_ifnonnull (off := 5) (tgt := 6) (q := 4) C (by decide +kernel) (by decide) rfl (fun a1 c1 => ?_) (fun c1 => ?_)
    · subst c1
      refine zz_aload_n (q := 7) (f := 0) (i := 0) C (by decide +kernel) rfl rfl rfl ?_
      refine zz_getR (q := 10) C gf_T_36 (by decide +kernel) rfl (by first | rfl | assumption) hok.2.2.2.2.1 ?_
      refine zz_aload_n (q := 11) (f := 1) (i := 1) C (by decide +kernel) rfl rfl rfl ?_
      refine zz_callV (q := 14) C (m_Q_standAt l) cv_T_211 (by decide +kernel) rfl rfl rfl (by first | rfl | assumption) (by decide) (by decide) (Nat.le_of_ble_eq_true rfl) ⟨_, _, rfl, ?_⟩
      refine zz_iload_n (q := 15) (f := 2) (i := 2) C (by decide +kernel) rfl rfl rfl ?_
      refine zz_if_eq (off := 8) (tgt := 23) (q := 18) C (by decide +kernel) (by decide) rfl (fun c15 => ?_) (fun c15 => ?_)
      · refine zz_aload_n (q := 24) (f := 1) (i := 1) C (by decide +kernel) rfl rfl rfl ?_
        refine zz_getI (q := 27) C gf_T_156 (by decide +kernel) rfl (by first | rfl | assumption) rfl ?_
        refine zz_iret C hr hlk (by decide +kernel) hQ (by decide) (by decide) ?_
        have hp2 := hp1 _ rfl
        rw [t_gt] at hp2
        first
          | (rw [if_pos c15] at hp2; exact hp2)
          | (rw [if_neg c15] at hp2; exact hp2)
      · refine zz_aload_n (q := 19) (f := 0) (i := 0) C (by decide +kernel) rfl rfl rfl ?_
        refine zz_aload_n (q := 20) (f := 1) (i := 1) C (by decide +kernel) rfl rfl rfl ?_
        refine zz_putR (q := 23) C gf_T_40 (fun h => by cases h) (by decide +kernel) rfl (by first | rfl | assumption) ?_
        refine zz_aload_n (q := 24) (f := 1) (i := 1) C (by decide +kernel) rfl rfl rfl ?_
        refine zz_getI (q := 27) C gf_T_156 (by decide +kernel) rfl (by first | rfl | assumption) rfl ?_
        refine zz_iret C hr hlk (by decide +kernel) hQ (by decide) (by decide) ?_
        have hp2 := hp1 _ rfl
        rw [t_gt] at hp2
        first
          | (rw [if_pos c15] at hp2; exact hp2)
          | (rw [if_neg c15] at hp2; exact hp2)
    · refine zz_iconst (q := 5) (n := 0) (x := 0) C (by decide +kernel) rfl (by decide +kernel) ?_
      refine zz_iret C hr hlk (by decide +kernel) hQ (by decide) (by decide) ?_
      exact hp0 c1

def T_T_joinTwin : zz_Tr := fun as h post => ∃ a f, as = [zz_r 0 (some a), zz_r 2 (some f)] ∧ t_ok h a ∧ or_okN h (t_od h a) ∧ sg_wf h ∧ kd_wf h ∧ ∀ r, or_best h (or_s h (t_od h a)) (or_tw h (t_od h a) f) (or_N h (t_od h a)) r → (r = none → post none h) ∧ (∀ s, r = some s → post none (t_jn h a f s))
set_option maxRecDepth 100000 in
set_option maxHeartbeats 4000000 in
theorem m_T_joinTwin (l : Launch) : zz_Met l y_T_joinTwin w_T_joinTwin { frames := 4, cells := 0, slots := 0, locals := 77 } T_T_joinTwin := by
  refine zz_ofZ (by decide) (fun as h post hT => ?_) ?_
  · obtain ⟨a, f, rfl, hok, hon, hwf, hkw, hp⟩ := hT
    exact ⟨by simp [zz_cat], by simp⟩
  · intro D DA h as post hT p e s m args below meth c Q C hr hlk hnm hQ
    obtain ⟨a, f, rfl, hok, hon, hwf, hkw, hp⟩ := hT
    refine zz_aload_n (q := 1) (f := 0) (i := 0) C (by decide +kernel) rfl rfl rfl ?_
    refine zz_getR (q := 4) C gf_T_29 (by decide +kernel) rfl (by first | rfl | assumption) hok.2.2.2.1 ?_
    refine zz_aload_n (q := 5) (f := 1) (i := 1) C (by decide +kernel) rfl rfl rfl ?_
    refine zz_callV (q := 8) C (m_O_freeTwinFor l) cv_T_268 (by decide +kernel) rfl rfl rfl (by first | rfl | assumption) (by decide) (by decide) (Nat.le_of_ble_eq_true rfl) ⟨_, _, rfl, hon, hwf, hkw, fun r hr => ?_⟩
    have hr9 := hr
    clear hr
    refine zz_astore_n (q := 9) (f := 2) (i := 2) C (by decide +kernel) rfl rfl (by decide) rfl ?_
    refine zz_aload_n (q := 10) (f := 2) (i := 2) C (by decide +kernel) rfl rfl rfl ?_
    refine zz_ifnull (off := 21) (tgt := 31) (q := 13) C (by decide +kernel) (by decide) rfl (fun c10 => ?_) (fun a10 c10 => ?_)
    · refine zz_vret C hr hlk (by decide +kernel) hQ (by decide) (by decide) ?_
      first
        | exact (hp r hr9).1 c10
        | exact (hp _ hr9).2 _ rfl
    · refine zz_know (fun hty _ hTL _ => ?_)
      obtain ⟨ns, hts⟩ := hTL 2 _ rfl _ c10
      have hos := hwf _ ns hts
      obtain ⟨nk, htk⟩ := hty.1 _ 2 ns 1 1 hts (by decide) rfl _ hos.1
      have hks := hkw _ nk htk
      subst c10
      refine zz_aload_n (q := 14) (f := 2) (i := 2) C (by decide +kernel) rfl rfl rfl ?_
      refine zz_aload_n (q := 15) (f := 0) (i := 0) C (by decide +kernel) rfl rfl rfl ?_
      refine zz_getR (q := 18) C gf_T_15 (by decide +kernel) rfl (by first | rfl | assumption) hok.2.1 ?_
      refine zz_callV (q := 21) C (m_S_takeWords l) cv_T_200 (by decide +kernel) rfl rfl rfl (by first | rfl | assumption) (by decide) (by decide) (Nat.le_of_ble_eq_true rfl) ⟨_, _, rfl, hos, hks, hok.2.2.2.2.2.2, ?_⟩
      refine zz_aload_n (q := 22) (f := 2) (i := 2) C (by decide +kernel) rfl rfl rfl ?_
      refine zz_aload_n (q := 23) (f := 1) (i := 1) C (by decide +kernel) rfl rfl rfl ?_
      refine zz_putR (q := 26) C gf_T_220 (fun h => by cases h) (by decide +kernel) rfl (by first | rfl | assumption) ?_
      refine zz_aload_n (q := 27) (f := 1) (i := 1) C (by decide +kernel) rfl rfl rfl ?_
      refine zz_aload_n (q := 28) (f := 2) (i := 2) C (by decide +kernel) rfl rfl rfl ?_
      refine zz_putR (q := 31) C gf_T_220 (fun h => by cases h) (by decide +kernel) rfl (by first | rfl | assumption) ?_
      refine zz_vret C hr hlk (by decide +kernel) hQ (by decide) (by decide) ?_
      first
        | exact (hp r hr9).1 c10
        | exact (hp _ hr9).2 _ rfl

def T_T_numberOf : zz_Tr := fun as h post => ∃ s, as = [zz_r 2 s] ∧ post (some (zz_i (t_nb h s))) h
set_option maxRecDepth 100000 in
set_option maxHeartbeats 4000000 in
theorem m_T_numberOf (l : Launch) : zz_Met l y_T_numberOf w_T_numberOf { frames := 1, cells := 0, slots := 0, locals := 12 } T_T_numberOf := by
  refine zz_ofZ (by decide) (fun as h post hT => ?_) ?_
  · obtain ⟨sg, rfl, hp⟩ := hT
    exact ⟨by simp [zz_cat], by simp⟩
  · intro D DA h as post hT p e s m args below meth c Q C hr hlk hnm hQ
    obtain ⟨sg, rfl, hp⟩ := hT
    refine zz_aload_n (q := 1) (f := 0) (i := 0) C (by decide +kernel) rfl rfl rfl ?_
    refine zz_ifnonnull (off := 7) (tgt := 8) (q := 4) C (by decide +kernel) (by decide) rfl (fun a1 c1 => ?_) (fun c1 => ?_)
    · refine zz_aload_n (q := 9) (f := 0) (i := 0) C (by decide +kernel) rfl rfl rfl ?_
      refine zz_getI (q := 12) C gf_T_156 (by decide +kernel) rfl (by first | rfl | assumption) rfl ?_
      refine zz_iret C hr hlk (by decide +kernel) hQ (by decide) (by decide) ?_
      rw [c1] at hp
      exact hp
    · refine zz_iconst (q := 5) (n := 0) (x := 0) C (by decide +kernel) rfl (by decide +kernel) ?_
      refine zz_goto (off := 7) (tgt := 12) C (by decide +kernel) (by decide) ?_
      refine zz_iret C hr hlk (by decide +kernel) hQ (by decide) (by decide) ?_
      rw [c1] at hp
      exact hp

def T_T_wordAsked : zz_Tr := fun as h post => ∃ s w, as = [zz_r 2 (some s), zz_i w] ∧ sg_ok h s ∧ kd_ok h (sg_k h s) ∧ post (some (zz_i (t_wq h s w))) h
set_option maxRecDepth 100000 in
set_option maxHeartbeats 4000000 in
theorem m_T_wordAsked (l : Launch) : zz_Met l y_T_wordAsked w_T_wordAsked { frames := 2, cells := 0, slots := 0, locals := 33 } T_T_wordAsked := by
  refine zz_ofZ (by decide) (fun as h post hT => ?_) ?_
  · obtain ⟨sg, w, rfl, hos, hks, hp⟩ := hT
    exact ⟨by simp [zz_cat], by simp⟩
  · intro D DA h as post hT p e s m args below meth c Q C hr hlk hnm hQ
    obtain ⟨sg, w, rfl, hos, hks, hp⟩ := hT
    refine zz_iload_n (q := 1) (f := 1) (i := 1) C (by decide +kernel) rfl rfl rfl ?_
    refine zz_bipush (q := 3) (n := 10) (x := 10) C (by decide +kernel) rfl (by decide +kernel) ?_
    refine zz_icmp_lt (off := 17) (tgt := 20) (q := 6) C (by decide +kernel) (by decide) rfl (fun c3 => ?_) (fun c3 => ?_)
    · refine zz_iconst (q := 21) (n := -1) (x := (-1)) C (by decide +kernel) rfl (by decide +kernel) ?_
      refine zz_iret C hr hlk (by decide +kernel) hQ (by decide) (by decide) ?_
      first
        | (rw [show t_wq h sg w = -1 from if_neg (fun z => absurd c3 (Int32.not_lt.mpr z.1))] at hp; exact hp)
        | (rw [show t_wq h sg w = -1 from if_neg (fun z => zz_b_f c17 z.2)] at hp; exact hp)
    · refine zz_aload_n (q := 7) (f := 0) (i := 0) C (by decide +kernel) rfl rfl rfl ?_
      refine zz_getR (q := 10) C gf_T_168 (by decide +kernel) rfl (by first | rfl | assumption) hos.1 ?_
      refine zz_iload_n (q := 11) (f := 1) (i := 1) C (by decide +kernel) rfl rfl rfl ?_
      refine zz_bipush (q := 13) (n := 10) (x := 10) C (by decide +kernel) rfl (by decide +kernel) ?_
      refine zz_isub (q := 14) C (by decide +kernel) rfl rfl ?_
      refine zz_callV (q := 17) C (m_K_hasWord l) cv_T_108 (by decide +kernel) rfl rfl rfl (by first | rfl | assumption) (by decide) (by decide) (Nat.le_of_ble_eq_true rfl) ⟨_, _, rfl, ?_⟩
      refine zz_if_ne (off := 5) (tgt := 22) (q := 20) C (by decide +kernel) (by decide) rfl (fun c17 => ?_) (fun c17 => ?_)
      · have h9 := zz_b_t c17
        obtain ⟨ln, hl1, hl2⟩ := hks.2
        have h8 := nI_in9 hl2 (by omega) (Int32.not_lt.mpr h9.1) h9.2
        refine zz_aload_n (q := 23) (f := 0) (i := 0) C (by decide +kernel) rfl rfl rfl ?_
        refine zz_getR (q := 26) C gf_T_176 (by decide +kernel) rfl (by first | rfl | assumption) hos.2.1 ?_
        refine zz_iload_n (q := 27) (f := 1) (i := 1) C (by decide +kernel) rfl rfl rfl ?_
        refine zz_bipush (q := 29) (n := 10) (x := 10) C (by decide +kernel) rfl (by decide +kernel) ?_
        refine zz_isub (q := 30) C (by decide +kernel) rfl rfl ?_
        refine zz_iaload (q := 31) C (by decide +kernel) rfl rfl hos.2.2.1 h8.2 (by omega) (by decide) rfl ?_
        refine zz_iret C hr hlk (by decide +kernel) hQ (by decide) (by decide) ?_
        rw [show t_wq h sg w = zz_aI h (sg_w h sg) (w - 10).toNatClampNeg from if_pos ⟨Int32.not_lt.mp c3, h9⟩] at hp
        exact hp
      · refine zz_iconst (q := 21) (n := -1) (x := (-1)) C (by decide +kernel) rfl (by decide +kernel) ?_
        refine zz_iret C hr hlk (by decide +kernel) hQ (by decide) (by decide) ?_
        first
          | (rw [show t_wq h sg w = -1 from if_neg (fun z => absurd c3 (Int32.not_lt.mpr z.1))] at hp; exact hp)
          | (rw [show t_wq h sg w = -1 from if_neg (fun z => zz_b_f c17 z.2)] at hp; exact hp)
end
section
/-! SegmentTrees: calls that throw nothing -/
theorem zz_sw_0_3 (x : Int32) : x = 0 ∨ x = 1 ∨ x = 2 ∨ x = 3 ∨ (x.toInt < 0 ∨ 3 < x.toInt) := by
  by_cases h0 : x.toInt = (0 : Int32).toInt
  · exact Or.inl (Int32.toInt_inj.mp h0)
  by_cases h1 : x.toInt = (1 : Int32).toInt
  · exact Or.inr (Or.inl (Int32.toInt_inj.mp h1))
  by_cases h2 : x.toInt = (2 : Int32).toInt
  · exact Or.inr (Or.inr (Or.inl (Int32.toInt_inj.mp h2)))
  by_cases h3 : x.toInt = (3 : Int32).toInt
  · exact Or.inr (Or.inr (Or.inr (Or.inl (Int32.toInt_inj.mp h3))))
  refine Or.inr (Or.inr (Or.inr (Or.inr (?_))))
  have e0 : (0 : Int32).toInt = 0 := by decide +kernel
  have e1 : (1 : Int32).toInt = 1 := by decide +kernel
  have e2 : (2 : Int32).toInt = 2 := by decide +kernel
  have e3 : (3 : Int32).toInt = 3 := by decide +kernel
  omega
def t_wf (h : zz_H) (a : Nat) : Prop := t_ok h a ∧ or_okN h (t_od h a) ∧ pa_ok h (t_pa h a) ∧ sg_wf h ∧ kd_wf h
/-- where the position stands among the segments -/
def t_bf (h : zz_H) (a i : Nat) : Prop := (∃ s9, zz_fR h 6 0 (t_ps h a) = some s9 ∧ i ≤ or_s h (t_od h a) ∧ (∀ j, j < i → zz_aR h (or_n h (t_od h a)) j ≠ some s9) ∧ (i < or_s h (t_od h a) → zz_aR h (or_n h (t_od h a)) i = some s9)) ∨ (zz_fR h 6 0 (t_ps h a) = none ∧ zz_fI h 6 2 (t_ps h a) = 0 ∧ i = 0) ∨ (zz_fR h 6 0 (t_ps h a) = none ∧ zz_fI h 6 2 (t_ps h a) ≠ 0 ∧ i = or_s h (t_od h a))
/-- the answer of a get -/
def t_an (h : zz_H) (a : Nat) (hd : Int32) (r : Option Nat) (post : Option zz_V → zz_H → Prop) : Prop := (r = none → post (some (zz_i 0)) (t_h0 h a)) ∧ ∀ s, r = some s → post (some (zz_i (zz_fI h 2 0 s))) (t_gt (t_h0 h a) a s hd)
def t_sd (h : zz_H) (a : Nat) : Option Nat := if zz_fI h 6 1 (t_ps h a) = 0 then none else zz_fR h 6 0 (t_ps h a)
def t_sg (h : zz_H) (s : Nat) (w : Int32) : Int32 := if w = 0 then zz_fI h 1 0 (sg_k h s) else if w = 1 then t_nb h (zz_fR h 2 2 s) else if w = 2 then t_nb h (zz_fR h 2 4 s) else if w = 3 then zz_fI h 1 2 (sg_k h s) else t_wq h s w
theorem t_bf_le {h : zz_H} {a i : Nat} (hok : or_ok h (t_od h a)) (hi : t_bf h a i) : i ≤ 60 := by
  have hb := hok.2.2.2.2.2.1
  rcases hi with ⟨-, -, h1, -⟩ | ⟨-, -, h1⟩ | ⟨-, -, h1⟩
  · omega
  · omega
  · omega
def T_T_clearPath : zz_Tr := fun as h post => ∃ a, as = [zz_r 0 (some a)] ∧ t_wf h a ∧ post none (pa_fg (t_h0 h a) (pa_l h (t_pa h a)) 4)
set_option maxRecDepth 100000 in
set_option maxHeartbeats 4000000 in
theorem m_T_clearPath (l : Launch) : zz_Met l y_T_clearPath w_T_clearPath { frames := 3, cells := 0, slots := 0, locals := 53 } T_T_clearPath := by
  refine zz_ofZ (by decide) (fun as h post hT => ?_) ?_
  · obtain ⟨a, rfl, hwf, hp⟩ := hT
    exact ⟨by simp [zz_cat], by simp⟩
  · intro D DA h as post hT p e s m args below meth c Q C hr hlk hnm hQ
    obtain ⟨a, rfl, hwf, hp⟩ := hT
    refine zz_aload_n (q := 1) (f := 0) (i := 0) C (by decide +kernel) rfl rfl rfl ?_
    refine zz_null (q := 2) C 2 (by decide +kernel) rfl ?_
    refine zz_putR (q := 5) C gf_T_40 (fun h => by cases h) (by decide +kernel) rfl (by first | rfl | assumption) ?_
    show zz_Z p l e _ s m args below meth c Q D DA (zz_A h s.heap.size) h _ _ _ _ (t_h0 h a) 0 0
    have hwf0 : t_wf (t_h0 h a) a := hwf
    refine zz_aload_n (q := 6) (f := 0) (i := 0) C (by decide +kernel) rfl rfl rfl ?_
    refine zz_getR (q := 9) C gf_T_22 (by decide +kernel) rfl (by first | rfl | assumption) hwf.1.2.2.1 ?_
    refine zz_callV (q := 12) C (m_P_forget l) cv_T_118 (by decide +kernel) rfl rfl rfl (by first | rfl | assumption) (by decide) (by decide) (Nat.le_of_ble_eq_true rfl) ⟨_, rfl, hwf0.2.2.1, ?_⟩
    refine zz_vret C hr hlk (by decide +kernel) hQ (by decide) (by decide) ?_
    exact hp

def T_T_unique : zz_Tr := fun as h post => ∃ a hd, as = [zz_r 0 (some a), zz_i hd] ∧ t_wf h a ∧ (hd = 0 ∨ hd = 1) ∧ ∀ r, or_first (or_s h (t_od h a)) 0 (or_pm h (t_od h a) (t_pa h a) none) (or_N h (t_od h a)) r → t_an h a hd r post
set_option maxRecDepth 100000 in
set_option maxHeartbeats 4000000 in
theorem m_T_unique (l : Launch) : zz_Met l y_T_unique w_T_unique { frames := 6, cells := 0, slots := 0, locals := 126 } T_T_unique := by
  refine zz_ofZ (by decide) (fun as h post hT => ?_) ?_
  · obtain ⟨a, hd, rfl, hwf, hhd, hp⟩ := hT
    exact ⟨by simp [zz_cat], by simp⟩
  · intro D DA h as post hT p e s m args below meth c Q C hr hlk hnm hQ
    obtain ⟨a, hd, rfl, hwf, hhd, hp⟩ := hT
    refine zz_aload_n (q := 1) (f := 0) (i := 0) C (by decide +kernel) rfl rfl rfl ?_
    refine zz_null (q := 2) C 2 (by decide +kernel) rfl ?_
    refine zz_putR (q := 5) C gf_T_40 (fun h => by cases h) (by decide +kernel) rfl (by first | rfl | assumption) ?_
    show zz_Z p l e _ s m args below meth c Q D DA (zz_A h s.heap.size) h _ _ _ _ (t_h0 h a) 0 0
    have hwf0 : t_wf (t_h0 h a) a := hwf
    refine zz_aload_n (q := 6) (f := 0) (i := 0) C (by decide +kernel) rfl rfl rfl ?_
    refine zz_aload_n (q := 7) (f := 0) (i := 0) C (by decide +kernel) rfl rfl rfl ?_
    refine zz_getR (q := 10) C gf_T_29 (by decide +kernel) rfl (by first | rfl | assumption) hwf.1.2.2.2.1 ?_
    refine zz_aload_n (q := 11) (f := 0) (i := 0) C (by decide +kernel) rfl rfl rfl ?_
    refine zz_getR (q := 14) C gf_T_22 (by decide +kernel) rfl (by first | rfl | assumption) hwf.1.2.2.1 ?_
    refine zz_iconst (q := 15) (n := 0) (x := 0) C (by decide +kernel) rfl (by decide +kernel) ?_
    refine zz_null (q := 16) C 2 (by decide +kernel) rfl ?_
    refine zz_callV (q := 19) C (m_O_firstThatMeets l) cv_T_133 (by decide +kernel) rfl rfl rfl (by first | rfl | assumption) (by decide) (by decide) (Nat.le_of_ble_eq_true rfl) ⟨_, _, 0, _, rfl, (by decide), hwf0.2.1, hwf0.2.2.1, hwf0.2.2.2.1, fun r hr9 => ?_⟩
    refine zz_iload_n (q := 20) (f := 1) (i := 1) C (by decide +kernel) rfl rfl rfl ?_
    refine zz_callV (q := 23) C (m_T_got l) cv_T_137 (by decide +kernel) rfl rfl rfl (by first | rfl | assumption) (by decide) (by decide) (Nat.le_of_ble_eq_true rfl) ⟨_, _, _, rfl, hwf0.1, fun z => ?_, fun s9 z => ?_⟩
    · refine zz_iret C hr hlk (by decide +kernel) hQ (by decide) (by decide) ?_
      exact (hp r hr9).1 z
    · refine zz_iret C hr hlk (by decide +kernel) hQ (by decide) (by decide) ?_
      exact (hp r hr9).2 s9 z

def T_T_next : zz_Tr := fun as h post => ∃ a hd, as = [zz_r 0 (some a), zz_i hd] ∧ t_wf h a ∧ (hd = 0 ∨ hd = 1) ∧ ∀ i r, t_bf h a i → or_first (or_s h (t_od h a)) (i + if zz_fI h 6 1 (t_ps h a) = 0 then 0 else 1) (or_pm h (t_od h a) (t_pa h a) none) (or_N h (t_od h a)) r → t_an h a hd r post
set_option maxRecDepth 100000 in
set_option maxHeartbeats 4000000 in
theorem m_T_next (l : Launch) : zz_Met l y_T_next w_T_next { frames := 6, cells := 0, slots := 0, locals := 126 } T_T_next := by
  refine zz_ofZ (by decide) (fun as h post hT => ?_) ?_
  · obtain ⟨a, hd, rfl, hwf, hhd, hp⟩ := hT
    exact ⟨by simp [zz_cat], by simp⟩
  · intro D DA h as post hT p e s m args below meth c Q C hr hlk hnm hQ
    obtain ⟨a, hd, rfl, hwf, hhd, hp⟩ := hT
    refine zz_aload_n (q := 1) (f := 0) (i := 0) C (by decide +kernel) rfl rfl rfl ?_
    refine zz_null (q := 2) C 2 (by decide +kernel) rfl ?_
    refine zz_putR (q := 5) C gf_T_40 (fun h => by cases h) (by decide +kernel) rfl (by first | rfl | assumption) ?_
    show zz_Z p l e _ s m args below meth c Q D DA (zz_A h s.heap.size) h _ _ _ _ (t_h0 h a) 0 0
    have hwf0 : t_wf (t_h0 h a) a := hwf
    refine zz_aload_n (q := 6) (f := 0) (i := 0) C (by decide +kernel) rfl rfl rfl ?_
    refine zz_aload_n (q := 7) (f := 0) (i := 0) C (by decide +kernel) rfl rfl rfl ?_
    refine zz_getR (q := 10) C gf_T_29 (by decide +kernel) rfl (by first | rfl | assumption) hwf.1.2.2.2.1 ?_
    refine zz_aload_n (q := 11) (f := 0) (i := 0) C (by decide +kernel) rfl rfl rfl ?_
    refine zz_getR (q := 14) C gf_T_22 (by decide +kernel) rfl (by first | rfl | assumption) hwf.1.2.2.1 ?_
    refine zz_aload_n (q := 15) (f := 0) (i := 0) C (by decide +kernel) rfl rfl rfl ?_
    refine zz_getR (q := 18) C gf_T_36 (by decide +kernel) rfl (by first | rfl | assumption) hwf.1.2.2.2.2.1 ?_
    refine zz_aload_n (q := 19) (f := 0) (i := 0) C (by decide +kernel) rfl rfl rfl ?_
    refine zz_getR (q := 22) C gf_T_29 (by decide +kernel) rfl (by first | rfl | assumption) hwf.1.2.2.2.1 ?_
    refine zz_callV (q := 25) C (m_Q_firstBehind l) cv_T_141 (by decide +kernel) rfl rfl rfl (by first | rfl | assumption) (by decide) (by decide) (Nat.le_of_ble_eq_true rfl) ⟨_, _, rfl, hwf0.2.1, fun i hi9 => ?_⟩
    have hi61 : (i + if zz_fI h 6 1 (t_ps h a) = 0 then 0 else 1) ≤ 61 := by
      have := t_bf_le hwf.2.1.1 hi9
      split <;> omega
    refine zz_null (q := 26) C 2 (by decide +kernel) rfl ?_
    refine zz_callV (q := 29) C (m_O_firstThatMeets l) cv_T_133 (by decide +kernel) rfl rfl rfl (by first | rfl | assumption) (by decide) (by decide) (Nat.le_of_ble_eq_true rfl) ⟨_, _, _, _, rfl, hi61, hwf0.2.1, hwf0.2.2.1, hwf0.2.2.2.1, fun r hr9 => ?_⟩
    refine zz_iload_n (q := 30) (f := 1) (i := 1) C (by decide +kernel) rfl rfl rfl ?_
    refine zz_callV (q := 33) C (m_T_got l) cv_T_137 (by decide +kernel) rfl rfl rfl (by first | rfl | assumption) (by decide) (by decide) (Nat.le_of_ble_eq_true rfl) ⟨_, _, _, rfl, hwf0.1, fun z => ?_, fun s9 z => ?_⟩
    · refine zz_iret C hr hlk (by decide +kernel) hQ (by decide) (by decide) ?_
      exact (hp i r hi9 hr9).1 z
    · refine zz_iret C hr hlk (by decide +kernel) hQ (by decide) (by decide) ?_
      exact (hp i r hi9 hr9).2 s9 z

def T_T_at : zz_Tr := fun as h post => ∃ a, as = [zz_r 0 (some a)] ∧ t_wf h a ∧ post (some (zz_i (t_nb h (t_sd h a)))) h
set_option maxRecDepth 100000 in
set_option maxHeartbeats 4000000 in
theorem m_T_at (l : Launch) : zz_Met l y_T_at w_T_at { frames := 2, cells := 0, slots := 0, locals := 32 } T_T_at := by
  refine zz_ofZ (by decide) (fun as h post hT => ?_) ?_
  · obtain ⟨a, rfl, hwf, hp⟩ := hT
    exact ⟨by simp [zz_cat], by simp⟩
  · intro D DA h as post hT p e s m args below meth c Q C hr hlk hnm hQ
    obtain ⟨a, rfl, hwf, hp⟩ := hT
    refine zz_aload_n (q := 1) (f := 0) (i := 0) C (by decide +kernel) rfl rfl rfl ?_
    refine zz_getR (q := 4) C gf_T_36 (by decide +kernel) rfl (by first | rfl | assumption) hwf.1.2.2.2.2.1 ?_
    refine zz_callV (q := 7) C (m_Q_standing l) cv_T_150 (by decide +kernel) rfl rfl rfl (by first | rfl | assumption) (by decide) (by decide) (Nat.le_of_ble_eq_true rfl) ⟨_, rfl, ?_⟩
    refine zz_callS (q := 10) C (m_T_numberOf l) cs_T_161 (by decide +kernel) rfl rfl rfl (by decide) (by decide) (Nat.le_of_ble_eq_true rfl) ⟨_, rfl, ?_⟩
    refine zz_iret C hr hlk (by decide +kernel) hQ (by decide) (by decide) ?_
    exact hp

def T_T_place : zz_Tr := fun as h post => ∃ a, as = [zz_r 0 (some a)] ∧ t_wf h a ∧ ∀ i, t_bf h a i → post (some (zz_i (nI i))) (t_h0 h a)
set_option maxRecDepth 100000 in
set_option maxHeartbeats 4000000 in
theorem m_T_place (l : Launch) : zz_Met l y_T_place w_T_place { frames := 3, cells := 0, slots := 0, locals := 55 } T_T_place := by
  refine zz_ofZ (by decide) (fun as h post hT => ?_) ?_
  · obtain ⟨a, rfl, hwf, hp⟩ := hT
    exact ⟨by simp [zz_cat], by simp⟩
  · intro D DA h as post hT p e s m args below meth c Q C hr hlk hnm hQ
    obtain ⟨a, rfl, hwf, hp⟩ := hT
    refine zz_aload_n (q := 1) (f := 0) (i := 0) C (by decide +kernel) rfl rfl rfl ?_
    refine zz_null (q := 2) C 2 (by decide +kernel) rfl ?_
    refine zz_putR (q := 5) C gf_T_40 (fun h => by cases h) (by decide +kernel) rfl (by first | rfl | assumption) ?_
    show zz_Z p l e _ s m args below meth c Q D DA (zz_A h s.heap.size) h _ _ _ _ (t_h0 h a) 0 0
    have hwf0 : t_wf (t_h0 h a) a := hwf
    refine zz_aload_n (q := 6) (f := 0) (i := 0) C (by decide +kernel) rfl rfl rfl ?_
    refine zz_getR (q := 9) C gf_T_36 (by decide +kernel) rfl (by first | rfl | assumption) hwf.1.2.2.2.2.1 ?_
    refine zz_aload_n (q := 10) (f := 0) (i := 0) C (by decide +kernel) rfl rfl rfl ?_
    refine zz_getR (q := 13) C gf_T_29 (by decide +kernel) rfl (by first | rfl | assumption) hwf.1.2.2.2.1 ?_
    refine zz_callV (q := 16) C (m_Q_before l) cv_T_165 (by decide +kernel) rfl rfl rfl (by first | rfl | assumption) (by decide) (by decide) (Nat.le_of_ble_eq_true rfl) ⟨_, _, rfl, hwf0.2.1, fun i hi9 => ?_⟩
    refine zz_iret C hr hlk (by decide +kernel) hQ (by decide) (by decide) ?_
    exact hp i hi9

def T_T_count : zz_Tr := fun as h post => ∃ a, as = [zz_r 0 (some a)] ∧ t_wf h a ∧ post (some (zz_i (nI (or_s h (t_od h a))))) (t_h0 h a)
set_option maxRecDepth 100000 in
set_option maxHeartbeats 4000000 in
theorem m_T_count (l : Launch) : zz_Met l y_T_count w_T_count { frames := 1, cells := 0, slots := 0, locals := 12 } T_T_count := by
  refine zz_ofZ (by decide) (fun as h post hT => ?_) ?_
  · obtain ⟨a, rfl, hwf, hp⟩ := hT
    exact ⟨by simp [zz_cat], by simp⟩
  · intro D DA h as post hT p e s m args below meth c Q C hr hlk hnm hQ
    obtain ⟨a, rfl, hwf, hp⟩ := hT
    refine zz_aload_n (q := 1) (f := 0) (i := 0) C (by decide +kernel) rfl rfl rfl ?_
    refine zz_null (q := 2) C 2 (by decide +kernel) rfl ?_
    refine zz_putR (q := 5) C gf_T_40 (fun h => by cases h) (by decide +kernel) rfl (by first | rfl | assumption) ?_
    show zz_Z p l e _ s m args below meth c Q D DA (zz_A h s.heap.size) h _ _ _ _ (t_h0 h a) 0 0
    have hwf0 : t_wf (t_h0 h a) a := hwf
    refine zz_aload_n (q := 6) (f := 0) (i := 0) C (by decide +kernel) rfl rfl rfl ?_
    refine zz_getR (q := 9) C gf_T_29 (by decide +kernel) rfl (by first | rfl | assumption) hwf.1.2.2.2.1 ?_
    refine zz_getI (q := 12) C gf_T_191 (by decide +kernel) rfl (by first | rfl | assumption) hwf.2.1.1.2.2.2.2.2.2 ?_
    refine zz_iret C hr hlk (by decide +kernel) hQ (by decide) (by decide) ?_
    exact hp

def T_T_segment : zz_Tr := fun as h post => ∃ a num wh, as = [zz_r 0 (some a), zz_i num, zz_i wh] ∧ t_wf h a ∧ ∀ r, or_first (or_s h (t_od h a)) 0 (fun i => zz_fI h 2 0 (or_N h (t_od h a) i) = num) (or_N h (t_od h a)) r → (r = none → post (some (zz_i (-1))) (t_h0 h a)) ∧ ∀ s, r = some s → post (some (zz_i (t_sg h s wh))) (t_h0 h a)
set_option maxRecDepth 100000 in
set_option maxHeartbeats 4000000 in
theorem m_T_segment (l : Launch) : zz_Met l y_T_segment w_T_segment { frames := 3, cells := 0, slots := 0, locals := 54 } T_T_segment := by
  refine zz_ofZ (by decide) (fun as h post hT => ?_) ?_
  · obtain ⟨a, num, wh, rfl, hwf, hp⟩ := hT
    exact ⟨by simp [zz_cat], by simp⟩
  · intro D DA h as post hT p e s m args below meth c Q C hr hlk hnm hQ
    obtain ⟨a, num, wh, rfl, hwf, hp⟩ := hT
    refine zz_aload_n (q := 1) (f := 0) (i := 0) C (by decide +kernel) rfl rfl rfl ?_
    refine zz_null (q := 2) C 2 (by decide +kernel) rfl ?_
    refine zz_putR (q := 5) C gf_T_40 (fun h => by cases h) (by decide +kernel) rfl (by first | rfl | assumption) ?_
    show zz_Z p l e _ s m args below meth c Q D DA (zz_A h s.heap.size) h _ _ _ _ (t_h0 h a) 0 0
    have hwf0 : t_wf (t_h0 h a) a := hwf
    refine zz_aload_n (q := 6) (f := 0) (i := 0) C (by decide +kernel) rfl rfl rfl ?_
    refine zz_getR (q := 9) C gf_T_29 (by decide +kernel) rfl (by first | rfl | assumption) hwf.1.2.2.2.1 ?_
    refine zz_iload_n (q := 10) (f := 1) (i := 1) C (by decide +kernel) rfl rfl rfl ?_
    refine zz_callV (q := 13) C (m_O_withNumber l) cv_T_251 (by decide +kernel) rfl rfl rfl (by first | rfl | assumption) (by decide) (by decide) (Nat.le_of_ble_eq_true rfl) ⟨_, _, rfl, hwf0.2.1, fun r hr9 => ?_⟩
    refine zz_astore_n (q := 14) (f := 3) (i := 3) C (by decide +kernel) rfl rfl (by decide) rfl ?_
    refine zz_aload_n (q := 15) (f := 3) (i := 3) C (by decide +kernel) rfl rfl rfl ?_
    refine zz_ifnonnull (off := 5) (tgt := 20) (q := 18) C (by decide +kernel) (by decide) rfl (fun a15 c15 => ?_) (fun c15 => ?_)
    · refine zz_know (fun hty _ hTL _ => ?_)
      obtain ⟨ns, hts⟩ := hTL 3 _ rfl _ c15
      have hos : sg_ok h a15 := hwf.2.2.2.1 _ ns hts
      obtain ⟨nk, htk⟩ := hty.1 _ 2 ns 1 1 hts (by decide) rfl _ hos.1
      have hks : kd_ok h (sg_k h a15) := hwf.2.2.2.2 _ nk htk
      refine zz_iload_n (q := 21) (f := 2) (i := 2) C (by decide +kernel) rfl rfl rfl ?_
      rcases (zz_sw_0_3 wh) with hsw | hsw | hsw | hsw | hsw
      · refine zz_tableIn (dflt := 63) (lo := 0) (hi := 3) (offs := #[31, 39, 47, 55]) (len := 31) (off := 31) (tgt := 52) C (by decide +kernel) (by rw [hsw]; decide) (by rw [hsw]; decide) (by rw [hsw]; rfl) (by decide) ?_
        refine zz_aload_n (q := 53) (f := 3) (i := 3) C (by decide +kernel) rfl rfl rfl ?_
        refine zz_getR (q := 56) C gf_T_168 (by decide +kernel) rfl (by first | rfl | assumption) hos.1 ?_
        refine zz_getI (q := 59) C gf_T_255 (by decide +kernel) rfl (by first | rfl | assumption) rfl ?_
        refine zz_iret C hr hlk (by decide +kernel) hQ (by decide) (by decide) ?_
        have hp2 := (hp r hr9).2 _ c15
        rw [t_sg] at hp2
        rw [if_pos hsw] at hp2
        exact hp2
      · refine zz_tableIn (dflt := 63) (lo := 0) (hi := 3) (offs := #[31, 39, 47, 55]) (len := 31) (off := 39) (tgt := 60) C (by decide +kernel) (by rw [hsw]; decide) (by rw [hsw]; decide) (by rw [hsw]; rfl) (by decide) ?_
        refine zz_aload_n (q := 61) (f := 3) (i := 3) C (by decide +kernel) rfl rfl rfl ?_
        refine zz_getR (q := 64) C gf_T_258 (by decide +kernel) rfl (by first | rfl | assumption) rfl ?_
        refine zz_callS (q := 67) C (m_T_numberOf l) cs_T_161 (by decide +kernel) rfl rfl rfl (by decide) (by decide) (Nat.le_of_ble_eq_true rfl) ⟨_, rfl, ?_⟩
        refine zz_iret C hr hlk (by decide +kernel) hQ (by decide) (by decide) ?_
        have hp2 := (hp r hr9).2 _ c15
        rw [t_sg] at hp2
        rw [if_neg (by rw [hsw]; decide), if_pos hsw] at hp2
        exact hp2
      · refine zz_tableIn (dflt := 63) (lo := 0) (hi := 3) (offs := #[31, 39, 47, 55]) (len := 31) (off := 47) (tgt := 68) C (by decide +kernel) (by rw [hsw]; decide) (by rw [hsw]; decide) (by rw [hsw]; rfl) (by decide) ?_
        refine zz_aload_n (q := 69) (f := 3) (i := 3) C (by decide +kernel) rfl rfl rfl ?_
        refine zz_getR (q := 72) C gf_T_220 (by decide +kernel) rfl (by first | rfl | assumption) rfl ?_
        refine zz_callS (q := 75) C (m_T_numberOf l) cs_T_161 (by decide +kernel) rfl rfl rfl (by decide) (by decide) (Nat.le_of_ble_eq_true rfl) ⟨_, rfl, ?_⟩
        refine zz_iret C hr hlk (by decide +kernel) hQ (by decide) (by decide) ?_
        have hp2 := (hp r hr9).2 _ c15
        rw [t_sg] at hp2
        rw [if_neg (by rw [hsw]; decide), if_neg (by rw [hsw]; decide), if_pos hsw] at hp2
        exact hp2
      · refine zz_tableIn (dflt := 63) (lo := 0) (hi := 3) (offs := #[31, 39, 47, 55]) (len := 31) (off := 55) (tgt := 76) C (by decide +kernel) (by rw [hsw]; decide) (by rw [hsw]; decide) (by rw [hsw]; rfl) (by decide) ?_
        refine zz_aload_n (q := 77) (f := 3) (i := 3) C (by decide +kernel) rfl rfl rfl ?_
        refine zz_getR (q := 80) C gf_T_168 (by decide +kernel) rfl (by first | rfl | assumption) hos.1 ?_
        refine zz_getI (q := 83) C gf_T_57 (by decide +kernel) rfl (by first | rfl | assumption) rfl ?_
        refine zz_iret C hr hlk (by decide +kernel) hQ (by decide) (by decide) ?_
        have hp2 := (hp r hr9).2 _ c15
        rw [t_sg] at hp2
        rw [if_neg (by rw [hsw]; decide), if_neg (by rw [hsw]; decide), if_neg (by rw [hsw]; decide), if_pos hsw] at hp2
        exact hp2
      · refine zz_tableOut (dflt := 63) (lo := 0) (hi := 3) (offs := #[31, 39, 47, 55]) (len := 31) (tgt := 84) C (by decide +kernel) hsw (by decide) ?_
        refine zz_aload_n (q := 85) (f := 3) (i := 3) C (by decide +kernel) rfl rfl rfl ?_
        refine zz_iload_n (q := 86) (f := 2) (i := 2) C (by decide +kernel) rfl rfl rfl ?_
        refine zz_callS (q := 89) C (m_T_wordAsked l) cs_T_260 (by decide +kernel) rfl rfl rfl (by decide) (by decide) (Nat.le_of_ble_eq_true rfl) ⟨a15, wh, (by rw [c15]), hos, hks, ?_⟩
        refine zz_iret C hr hlk (by decide +kernel) hQ (by decide) (by decide) ?_
        have hp2 := (hp r hr9).2 _ c15
        rw [t_sg] at hp2
        have n0 : wh ≠ 0 := fun z => by rw [z] at hsw; exact absurd hsw (by decide)
        have n1 : wh ≠ 1 := fun z => by rw [z] at hsw; exact absurd hsw (by decide)
        have n2 : wh ≠ 2 := fun z => by rw [z] at hsw; exact absurd hsw (by decide)
        have n3 : wh ≠ 3 := fun z => by rw [z] at hsw; exact absurd hsw (by decide)
        rw [if_neg n0, if_neg n1, if_neg n2, if_neg n3] at hp2
        exact hp2
    · refine zz_iconst (q := 19) (n := -1) (x := (-1)) C (by decide +kernel) rfl (by decide +kernel) ?_
      refine zz_iret C hr hlk (by decide +kernel) hQ (by decide) (by decide) ?_
      exact (hp r hr9).1 c15
end
section
/-! throws: what is known of Throwable's statics, of the messages -/
def xx_Z (n d : String) (A : Nat → Prop) (U : State) (H : Heap) : Prop := ∃ (c : ClassId) (k : Class) (i : Nat) (f : Field) (a : Nat) (cell : Cell) (u : RefV), U.vm.findClass Bundle.tN = some c ∧ U.fieldFound? Bundle.tN n d = some (c, k, i, f) ∧ f.isStatic = true ∧ k.statics = some a ∧ H[a]? = some cell ∧ cell.vm.isStatics = true ∧ cell.cls = c ∧ f.slot < cell.slots.size ∧ k.staticTypes[f.slot]? = some f.type ∧ cell.slots[f.slot]? = some u.v ∧ ¬ A a
theorem xx_Z_moved {n d : String} {A : Nat → Prop} {u U : State} {H : Heap} (hvm : u.vm.Alike U.vm) (h : xx_Z n d A u H) : xx_Z n d A U H := by
  obtain ⟨c, k, i, f, a, cell, v, h1, h2, h3, h4, h5, h6, h7, h8, h9, h10⟩ := h
  obtain ⟨k', hi', he⟩ := State.fieldFound?_setVm hvm h2
  exact ⟨c, k', i, f, a, cell, v, by rw [hvm.findClass]; exact h1, hi', h3, by rw [he]; exact h4, h5, h6, h7, h8, by rw [he]; exact h9, h10⟩
theorem xx_Z_kept {n d : String} {A B : Nat → Prop} {U : State} {H H1 : Heap} (h : xx_Z n d A U H) (hq : ∀ a : Nat, a < H.size → ¬ A a → H1[a]? = H[a]?) (hAB : ∀ q, B q → A q) : xx_Z n d B U H1 := by
  obtain ⟨c, k, i, f, a, cell, v, h1, h2, h3, h4, h5, h6, h7, h8, h9, h10, h11⟩ := h
  exact ⟨c, k, i, f, a, cell, v, h1, h2, h3, h4, by rw [hq a (Array.getElem?_eq_some_iff.mp h5).1 h11]; exact h5, h6, h7, h8, h9, h10, fun z => h11 (hAB a z)⟩
theorem xx_Z_of {args : Array Value} {s : State} {n d : String} {A : Nat → Prop} (hl : (Cond.laysStatic Bundle.tN n d).before args s = true) (hr : (Cond.isRef (.static Bundle.tN n d)).before args s = true) (hA : ∀ a : Nat, a < s.heap.size → ¬ A a) : xx_Z n d A s s.heap := by
  obtain ⟨c, k, i, f, a, cell, hc, hi, hst, ha, hcell, hs, hcls, hlt, hty⟩ := Cond.laysStatic_spec hl
  obtain ⟨u, hu⟩ := Cond.staticRefV hi hst ha hcell hs hr
  exact ⟨c, k, i, f, a, cell, u, hc, hi, hst, ha, hcell, hs, hcls, hlt, hty, hu, hA a (Array.getElem?_eq_some_iff.mp hcell).1⟩
theorem xx_Z_lay {args : Array Value} {s : State} {n d : String} {A : Nat → Prop} (h : xx_Z n d A s s.heap) : (Cond.laysStatic Bundle.tN n d).before args s = true := by
  obtain ⟨c, k, i, f, a, cell, u, h1, h2, h3, h4, h5, h6, h7, h8, h9, -, -⟩ := h
  exact Cond.laysStatic_of h1 h2 h3 h4 h5 h6 h7 h8 h9
theorem xx_Z_ref {args : Array Value} {s : State} {n d : String} {A : Nat → Prop} (h : xx_Z n d A s s.heap) : (Cond.isRef (.static Bundle.tN n d)).before args s = true := by
  obtain ⟨c, k, i, f, a, cell, u, h1, h2, h3, h4, h5, h6, h7, h8, h9, h10, -⟩ := h
  have he : (Term.static Bundle.tN n d).eval args s none [] s = some u.v := by
    simp [Term.eval, State.fieldNamed?, h2, h3, h4, h5, h6, h10]
  have hu := u.ok
  simp only [Cond.before, Cond.holds, Cond.value, he]
  revert hu
  cases u.v <;> simp [Value.isRef]
def xx_strs : List (Nat × String) := [(46, "there is no such type"), (55, "the parent is not declared"), (61, "the level is too low"), (63, "the length is out of bounds"), (65, "the sequence is out of bounds"), (69, "the type is declared"), (266, "a segment was inserted"), (264, "the type is not declared"), (81, "a type is not its own twin"), (89, "the types are not alike"), (95, "the types have no sequence"), (101, "a type has a twin"), (106, "it is a root type"), (112, "the type has no such word"), (121, "there is no such operation"), (131, "there is no such word to work with"), (148, "no parent is fixed"), (154, "the position is at no segment"), (173, "the segment has no such word"), (214, "no segment is held"), (242, "there is no second order")]
def xx_R (U : State) : Prop := ∀ q ∈ xx_strs, ∃ a, vk_R "SegmentTrees" q.1 q.2 a U
def xx_G (A : Nat → Prop) (U : State) (H : Heap) : Prop := xx_Z "UNASSIGNED_STACK" Bundle.steD A U H ∧ xx_Z "SUPPRESSED_SENTINEL" Bundle.listD A U H ∧ xx_R U
theorem xx_G_go {A B : Nat → Prop} {s U : State} {H H1 : Heap} (hW : s.WarmedH U.vm) (h : xx_G A s H) (hq : ∀ a : Nat, a < H.size → ¬ A a → H1[a]? = H[a]?) (hAB : ∀ q, B q → A q) : xx_G B U H1 :=
  ⟨xx_Z_moved hW.alike (xx_Z_kept h.1 hq hAB), xx_Z_moved hW.alike (xx_Z_kept h.2.1 hq hAB), fun q hm => let ⟨a, ha⟩ := h.2.2 q hm; ⟨a, ha.warm hW⟩⟩
/-- a walk's place as the start of a walk of its own -/
theorem xx_rebase {p : Program} {l : Launch} {e : Env} {R R' : Room} {s : State} {m : MethodId} {args : Array Value} {below : List Frame} {meth : Method} {c : Code} {T : State} {locs : List Loc} {cells slots : Nat} (X : Stand p l e R s m args below meth c T locs cells slots) (h1 : R'.frames ≤ R.frames) (h2 : R'.locals ≤ R.locals) (h3 : cells + R'.cells ≤ R.cells) (h4 : slots + R'.slots ≤ R.slots) : Stand p l e R' ((T.setVm s.vm).setFrames (.invoking m args :: below)) m args below meth c T [] 0 0 := by
  obtain ⟨g₀, hfr⟩ := X.frames_eq
  obtain ⟨th, hth, -⟩ := State.frames_cons hfr
  have hcur : T.cur < T.threads.size := (Array.getElem?_eq_some_iff.mp hth).1
  have hf : ((T.setVm s.vm).setFrames (.invoking m args :: below)).frames = .invoking m args :: below := State.frames_setFrames _ hcur
  have hli : ((T.setVm s.vm).setFrames (.invoking m args :: below)).localsInUse = s.localsInUse := by
    unfold State.localsInUse
    rw [hf, X.frames]
    rfl
  refine ⟨X.admits, X.cas, X.clock, hf, ?_, X.hears, X.method, X.code, X.here, X.tail, X.warmed, ?_, ?_, ?_⟩
  · have hr := X.room
    simp only [State.hasRoom, Bool.and_eq_true, decide_eq_true_eq] at hr ⊢
    obtain ⟨⟨⟨⟨r1, r2⟩, r3⟩, r4⟩, r5⟩ := hr
    have q1 := X.heapSize
    have q2 := X.used
    have q3 : ((T.setVm s.vm).setFrames (.invoking m args :: below)).heap.size = T.heap.size := rfl
    have q4 : ((T.setVm s.vm).setFrames (.invoking m args :: below)).slotsUsed = T.slotsUsed := rfl
    have q5 : e.platform.stackLimits ((T.setVm s.vm).setFrames (.invoking m args :: below)).me = e.platform.stackLimits s.me := by rw [State.stackLimits_setFrames]; exact X.limits
    have q6 : ((T.setVm s.vm).setFrames (.invoking m args :: below)).me.stackBytes = s.me.stackBytes := by rw [State.stackBytes_setFrames]; exact X.bytes
    have q7 : s.frames.length = ((T.setVm s.vm).setFrames (.invoking m args :: below)).frames.length := by rw [hf, X.frames]
    rw [hli, q3, q4, q5, q6, ← q7]
    refine ⟨⟨⟨⟨by omega, by omega, by omega, by omega, by omega, r2.2.2.2.2⟩, by omega⟩, by omega⟩, X.book⟩
  · rw [State.stackLimits_setFrames]; rfl
  · rw [State.stackBytes_setFrames]; rfl
  · have hth2 : ((T.setVm s.vm).setFrames (.invoking m args :: below)).cur < ((T.setVm s.vm).setFrames (.invoking m args :: below)).threads.size := State.cur_lt_of_frames hf
    obtain ⟨t2, ht2, -⟩ := State.frames_cons hf
    have h := (State.sameButNew.refl ((T.setVm s.vm).setFrames (.invoking m args :: below)) ht2).setFrames T.frames hth2
    rw [State.setFrames_setFrames] at h
    have e9 : (T.setVm s.vm).setFrames T.frames = T.setVm s.vm := State.setFrames_self (s := T.setVm s.vm) hth
    rw [e9] at h
    exact h
end
section
/-! throws: the words -/
def xx_tw : List Cond := [41, 56, 57, 289, 290, 292, 294, 296, 297, 298, 299, 300, 301, 302, 303, 304, 305, 306, 307, 308, 309, 310, 311, 312, 313, 314, 316, 318, 319, 321, 322, 323, 324, 326, 328, 330, 331, 332, 333, 334, 335, 336, 337, 338, 339, 340, 341, 342, 343, 344, 345, 346, 365, 366, 367, 368, 369, 370, 371, 372, 374, 375, 376, 377, 520, 521, 522, 523, 524, 525, 526, 527, 529, 530, 531, 532].filterMap (fun i => lw_tbl[i]?)
def xx_sp : List Cond := [.laysStatic Bundle.tN "UNASSIGNED_STACK" Bundle.steD, .laysStatic Bundle.tN "SUPPRESSED_SENTINEL" Bundle.listD, .isRef (.static Bundle.tN "UNASSIGNED_STACK" Bundle.steD), .isRef (.static Bundle.tN "SUPPRESSED_SENTINEL" Bundle.listD)]
theorem xx_tw_in : ∀ w ∈ xx_tw, w ∈ zz_all := zz_ins [41, 56, 57, 289, 290, 292, 294, 296, 297, 298, 299, 300, 301, 302, 303, 304, 305, 306, 307, 308, 309, 310, 311, 312, 313, 314, 316, 318, 319, 321, 322, 323, 324, 326, 328, 330, 331, 332, 333, 334, 335, 336, 337, 338, 339, 340, 341, 342, 343, 344, 345, 346, 365, 366, 367, 368, 369, 370, 371, 372, 374, 375, 376, 377, 520, 521, 522, 523, 524, 525, 526, 527, 529, 530, 531, 532] rfl (by decide +kernel)
def xx_up : List String := ["java/lang/RuntimeException", "java/lang/Exception"]
theorem xx_ownA : (Bundle.ownAtoms "SegmentTrees" 48 "java/lang/IllegalArgumentException" xx_up).all (fun w => decide (w ∈ xx_tw) || decide (w ∈ xx_sp)) = true := by decide +kernel
theorem xx_ownS : (Bundle.ownAtoms "SegmentTrees" 71 "java/lang/IllegalStateException" xx_up).all (fun w => decide (w ∈ xx_tw) || decide (w ∈ xx_sp)) = true := by decide +kernel
theorem xx_ownB : (Bundle.ownAtoms "SegmentTrees" 175 "java/lang/IndexOutOfBoundsException" xx_up).all (fun w => decide (w ∈ xx_tw) || decide (w ∈ xx_sp)) = true := by decide +kernel
theorem xx_pay {own X : String} {ic : Nat} {args : Array Value} {s : State} {A : Nat → Prop} (hw : (Bundle.ownAtoms own ic X xx_up).all (fun w => decide (w ∈ xx_tw) || decide (w ∈ xx_sp)) = true) (ht : ∀ w ∈ zz_all, w.before args s = true) (hG : xx_G A s s.heap) : ∀ w ∈ Bundle.ownAtoms own ic X xx_up, w.before args s = true := fun w hm => by
  have h1 := List.all_eq_true.mp hw w hm
  simp only [Bool.or_eq_true, decide_eq_true_eq] at h1
  rcases h1 with h1 | h1
  · exact ht w (xx_tw_in w h1)
  · simp only [xx_sp, List.mem_cons, List.not_mem_nil, or_false] at h1
    rcases h1 with rfl | rfl | rfl | rfl
    · exact xx_Z_lay hG.1
    · exact xx_Z_lay hG.2.1
    · exact xx_Z_ref hG.1
    · exact xx_Z_ref hG.2.1
end
section
/-! throws: contracts -/
def zz_outX (D : va_G) (DA : Nat → ClassId) (A : Nat → Prop) (h0 : zz_H) (post : String → zz_H → Prop) : Array Value → State → Outcome → State → Prop := fun _ st o t => ∃ (x : Nat) (X : String) (h' : zz_H), post X h' ∧ o = .threw x ∧ (∃ ce : Cell, t.heap[x]? = some ce ∧ st.vm.findClass X = some ce.cls ∧ ce.vm = .none) ∧ zz_E D DA A h0 h' st t
def zz_PcX (D : va_G) (DA : Nat → ClassId) (h : zz_H) (sz : Nat) (as : List zz_V) : Array Value → State → Prop := va_Pc (as.map zz_v) (fun U => (U.heap.size = sz ∧ zz_W D DA U h U.heap ∧ zz_K D DA U ∧ zz_T h as) ∧ xx_G (zz_A h sz) U U.heap)
abbrev zz_TX : Type := List zz_V → zz_H → (String → zz_H → Prop) → Prop
def MQX (below : List Frame) (Qc : Array Value → State → Outcome → State → Prop) (a : Array Value) (s : State) (mc ms : Nat) (free : Addr → Prop) : State → Prop := fun t =>
  ∃ o, t.status = .running ∧ Ended t below o ∧ Qc a s o t ∧ ∃ L, FrameEndT s o t L mc ms ∧ ∀ q ∈ L, free q.base
def zz_MetX (l : Launch) (y : MethodName) (ws : List Cond) (rm : Room) (T : zz_TX) : Prop :=
  ∀ (D : va_G) (DA : Nat → ClassId) (h : zz_H) (sz : Nat) (as : List zz_V) (post : String → zz_H → Prop), T as h post →
    MetFree l y (headSpec ws rm) (zz_PcX D DA h sz as) (fun _ _ _ _ _ => True) (fun a st o t => zz_outX D DA (zz_A h sz) h post a st o t ∧ ∃ L, FrameEndT st o t L rm.cells rm.slots ∧ ∀ q ∈ L, zz_A h sz q.base)
def zz_EndX (Q : State → Prop) (below : List Frame) (args : Array Value) (s : State) (D : va_G) (DA : Nat → ClassId) (h : zz_H) (post : String → zz_H → Prop) (mc ms : Nat) : Prop :=
  ∀ t, MQX below (zz_outX D DA (zz_A h s.heap.size) h post) args s mc ms (zz_A h s.heap.size) t → Q t
/-- what a throwing walk knows besides -/
def zz_CX (l : Launch) (s : State) (h : zz_H) (meth : Method) (c : Code) : Prop := l.stackTraces = false ∧ xx_G (zz_A h s.heap.size) s s.heap ∧ c.exceptionTable.isEmpty = true ∧ meth.locks = false
theorem zz_ofX {l : Launch} {y : MethodName} {rm : Room} {T : zz_TX} {cc : ByteArray} {maxL : Nat} {ret : Option FieldType} (hl : l.stackTraces = false) (hy : plainName y.cls = true) (hfit : ∀ as h post, T as h post → (∀ v ∈ as, zz_cat v = 1) ∧ as.length ≤ maxL)
    (body : ∀ (D : va_G) (DA : Nat → ClassId) (h : zz_H) (as : List zz_V) (post : String → zz_H → Prop), T as h post →
      ∀ (p : Program) (e : Env) (s : State) (m : MethodId) (args : Array Value) (below : List Frame) (meth : Method) (c : Code) (Q : State → Prop), zz_C p s m args c cc maxL y.cls D DA → zz_CX l s h meth c → meth.name = y.name → zz_EndX Q below args s D DA h post rm.cells rm.slots →
        zz_Z p l e rm s m args below meth c Q D DA (zz_A h s.heap.size) h maxL 0 (as.map some ++ List.replicate (maxL - as.length) none) [] h 0 0) :
    zz_MetX l y (Cond.code y cc maxL ret :: zz_all) rm T := by
  intro D DA h sz as post hT
  obtain ⟨hf1, hf2⟩ := hfit as h post hT
  refine MetFree.of_bodyS (code := cc) (maxLocals := maxL) (ret := ret) hy ?_ ?_
  · intro args s m h hn
    obtain ⟨meth, c, h1, h2, h3, h4, h5, h6, -, -⟩ := Cond.code_spec hn (atoms_spec (ws := Cond.code y cc maxL ret :: zz_all) h _ List.mem_cons_self)
    exact ⟨meth, c, h1, h2, h3, h4, h5, h6⟩
  · intro p e s m args below meth c s₁ B hml hv _
    obtain ⟨rfl, ⟨hsz, hW, hK, hTs⟩, hG⟩ := hv
    subst hsz
    have hts := atoms_spec (ws := Cond.code y cc maxL ret :: zz_all) B.pre
    have hC : zz_C p s m (as.map zz_v).toArray c cc maxL y.cls D DA := ⟨⟨B.exec, B.bytes, hml, findClass_of_methodNamed B.named, fun w hw => hts w (List.mem_cons_of_mem _ hw)⟩, hK⟩
    have hZ := body D DA h as post hT p e s m _ below meth c _ hC ⟨hl, hG, B.noHandlers (hts _ List.mem_cons_self), B.notSynchronized⟩ (name_of_methodNamed B.named B.method).1 (fun t ht => ht)
    have hh0 : s₁.heap = s.heap := by rw [B.state]; rfl
    have hz := hZ s.heap [] _ hW (zz_S0 hW) (zz_le_rf h) (zz_TL0 hTs) (fun _ hz => by cases hz) (zz_entry hf1 hf2) s₁ hh0 (Stand.of_body B)
    obtain ⟨t, a1, o, b1, b2, b3⟩ := hz
    refine ⟨t, o, ?_, b1, b2, b3⟩
    rw [lg_entry_eq]
    exact a1
theorem xx_W_ext {D : va_G} {DA : Nat → ClassId} {U : State} {h : zz_H} {H H1 : Heap} (hW : zz_W D DA U h H) (hq : ∀ a : Nat, a < H.size → H1[a]? = H[a]?) : zz_W D DA U h H1 := by
  refine ⟨fun a e he => ?_, fun a n ht => ?_, hW.2.2⟩
  · have hv := hW.1 a e he
    exact va_at.kept hv (hq a (va_at.lt hv))
  · obtain ⟨scr, h1, h2⟩ := hW.2.1 a n ht
    exact ⟨scr, by rw [hq a (Array.getElem?_eq_some_iff.mp h1).1]; exact h1, h2⟩
end
section
/-! throws: the throw itself -/
section ZT
variable {p : Program} {l : Launch} {e : Env} {R : Room} {s : State} {m : MethodId} {args : Array Value} {below : List Frame} {meth : Method} {c : Code} {Q : State → Prop}
variable {D : va_G} {DA : Nat → ClassId} {h0 h : zz_H} {nL kc ns pc q mc ms : Nat} {cc : ByteArray} {own : String} {L : List (Option zz_V)} {S : List zz_V} {post : String → zz_H → Prop}
/-- a new cell and no other change -/
theorem xx_only {s1 s2 : State} {k n : Nat} (h : s1.sameButNew s2 [] k n) : ∀ a : Nat, a < s1.heap.size → s2.heap[a]? = s1.heap[a]? := fun a ha => by
  obtain ⟨c', q1, q2, q3, q4⟩ := h.2.2.2.2.2 a s1.heap[a] (Array.getElem?_eq_getElem ha)
  have e1 : c'.slots = s1.heap[a].slots := Array.ext_getElem? fun i => q4 i (fun hm => by cases hm)
  rw [q1, Array.getElem?_eq_getElem ha, q2, e1]
/-- the end of a walk that threw: what it knew of the heap is still so -/
theorem xx_end {H : Heap} {locs : List Loc} {T U : State} {X : String} {x : Nat} (hx : zz_CX l s h0 meth c) (hW : zz_W D DA s h H) (hS : zz_S (zz_A h0 s.heap.size) s.heap h H locs) (hle : zz_le h0 h) (hT : T.heap = H) (Y : Stand p l e R s m args below meth c T locs kc ns) (hQ : zz_EndX Q below args s D DA h0 post mc ms) (hc : kc + 1 ≤ mc) (hs : ns + 6 ≤ ms) (hp : post X h)
    (hrun : U.status = .running) (hend : Ended U below (.threw x)) (hWm : s.WarmedH U.vm) (hsame : ((T.setVm s.vm).setFrames (.invoking m args :: below)).sameButNew ({ U with vm := s.vm } : State) [] 1 6) (hce : ∃ ce : Cell, U.heap[x]? = some ce ∧ s.vm.findClass X = some ce.cls ∧ ce.vm = .none) : Q U := by
  obtain ⟨g₀, hfr⟩ := Y.frames_eq
  obtain ⟨th, hth, -⟩ := State.frames_cons hfr
  have hcur : T.cur < T.threads.size := (Array.getElem?_eq_some_iff.mp hth).1
  have hold : ∀ a : Nat, a < H.size → U.heap[a]? = H[a]? := fun a ha => by
    have := xx_only hsame a (by show a < T.heap.size; rw [hT]; exact ha)
    rw [← hT]; exact this
  have hsz : H.size ≤ U.heap.size := by rw [← hT]; exact hsame.2.1
  refine hQ U ⟨.threw x, hrun, hend, ⟨x, X, h, hp, rfl, hce, ?_⟩, locs, ⟨⟨x, rfl⟩, hWm, ?_⟩, hS.1.2.2⟩
  · refine ⟨zz_W_moved hWm.alike (xx_W_ext hW hold), hle, ⟨Nat.le_trans hS.1.1 hsz, fun a h1 h2 => ?_⟩, hS.2.2.1⟩
    rw [hold a (Nat.lt_of_lt_of_le h1 hS.1.1)]
    exact hS.1.2.1 a h1 h2
  · have h1 := (Y.same.setFrames (.invoking m args :: below) Y.cur).trans hsame
    rw [List.append_nil] at h1
    exact h1.mono hc hs
/-- new, dup, a message, the constructor, athrow: nobody here catches it -/
theorem zz_throw (C : zz_C p s m args c cc nL "SegmentTrees" D DA) (hx : zz_CX l s h0 meth c) {X tx : String} {i0 i1 ic : Nat} (hat : (Bundle.ownAtoms "SegmentTrees" ic X xx_up).all (fun w => decide (w ∈ xx_tw) || decide (w ∈ xx_sp)) = true) (hfX : Bundle.fit X = true) (hwc : Cond.classLink "SegmentTrees" i0 X ∈ zz_all) (hwi : Cond.instantiable X 6 ∈ zz_all) (hwn : Cond.initialized X ∈ zz_all) (hstr : (i1, tx) ∈ xx_strs)
    (hd0 : decode cc pc = .ok (.new i0, 3)) (hd1 : decode cc (pc + 3) = .ok (.dup, 1)) (hd2 : (decode cc (pc + 4) = .ok (.ldc i1, 2) ∧ q = pc + 6) ∨ (decode cc (pc + 4) = .ok (.ldc_w i1, 3) ∧ q = pc + 7)) (hd3 : decode cc q = .ok (.invokespecial ic, 3)) (hd4 : decode cc (q + 3) = .ok (.athrow, 1))
    (hQ : zz_EndX Q below args s D DA h0 post mc ms) (hc : kc + 1 ≤ mc) (hs : ns + 6 ≤ ms) (hcR : kc + 1 ≤ R.cells) (hsR : ns + 6 ≤ R.slots) (hRf : 5 < R.frames) (hRl : 90 ≤ R.locals) (hp : post X h) : zz_Z p l e R s m args below meth c Q D DA (zz_A h0 s.heap.size) h0 nL pc L [] h kc ns := by
  intro H locs ls hW hS hle hTL hTS hL T hT Y
  have Y' := xx_rebase (R' := { frames := R.frames, cells := 1, slots := 6, locals := R.locals }) Y (Nat.le_refl _) (Nat.le_refl _) hcR hsR
  have ht' : ∀ w ∈ zz_all, w.before args ((T.setVm s.vm).setFrames (.invoking m args :: below)) = true := fun w hw => zz_payW (zz_good w hw) (C.1.2.2.2.2 w hw) (State.WarmedH.refl s)
  have hG' : xx_G (zz_A h0 s.heap.size) ((T.setVm s.vm).setFrames (.invoking m args :: below)) T.heap := xx_G_go (State.WarmedH.refl s) hx.2.1 (fun a h1 h2 => by rw [hT]; exact hS.1.2.1 a h1 h2) (fun _ z => z)
  have htr : e.platform.stackTraces = false := by rw [Example.NoTraceControls.admits_follows Y.admits]; exact hx.1
  have hlk : meth.locks = false := hx.2.2.2
  have hown : ((T.setVm s.vm).setFrames (.invoking m args :: below)).vm.findClass "SegmentTrees" = some m.cls := C.1.2.2.2.1
  obtain ⟨vm1, cX, kX, hfc, hkX, -, -, X1, st1⟩ := Y'.newCold C.1.1 (own := "SegmentTrees") (C := X) (index := i0) (n := 6) hown (ht' _ hwc) (ht' _ hwi) (ht' _ hwn) (g := F0 m pc ls []) rfl (by rw [C.1.2.1]; exact hd0) (Nat.le_refl _) (Nat.le_refl _)
  have hcell : ((T.setVm vm1).pushCell { cls := cX, slots := kX.instanceTypes.map defaultValue, vm := .none }).heap[T.heap.size]? = some (freshCell cX kX) := State.heap_pushCell_size _ _
  obtain ⟨sa, hsa⟩ := hG'.2.2 (i1, tx) hstr
  have hk : W p l e { frames := R.frames, cells := 1, slots := 6, locals := R.locals } ((T.setVm s.vm).setFrames (.invoking m args :: below)) m args below meth c ((T.setVm vm1).pushCell { cls := cX, slots := kX.instanceTypes.map defaultValue, vm := .none }).heap [] (0 + 1) (0 + 6) Q (F0 m (pc + 3 + 1) ls [.ref T.heap.size, .ref T.heap.size]) := by
    intro T9 hT9 X9
    have hc9 : T9.heap[T.heap.size]? = some (freshCell cX kX) := by rw [hT9]; exact hcell
    obtain ⟨U, hsteps, hrun, hend, hWm, hsame, ce, hce, K⟩ := X9.ctorThrowS C.1.1 htr (own := "SegmentTrees") (cls := X) (names := xx_up) (ic := ic) hown hfX (by decide +kernel) (xx_pay hat ht' hG') (fun _ hz => by cases hz) hfc hkX hc9 (Nat.le_refl _) (msg := .ref sa) rfl
      (g := F0 m q ls [.ref sa, .ref T.heap.size, .ref T.heap.size]) rfl (hL.1.trans C.1.2.2.1.symm) rfl rfl (rest := []) rfl (by rw [C.1.2.1]; exact hd3) (by rw [C.1.2.1]; exact hd4) (covers_of_empty hx.2.2.1 _) (by show 2 + 3 < R.frames; exact hRf) (by show 0 + 1 + (13 * 3 + 42) ≤ R.locals; omega)
    refine ⟨U, ?_, xx_end hx hW hS hle hT Y hQ hc hs hp hrun hend hWm hsame ⟨ce, hce, K.cls, K.vm⟩⟩
    rcases hd2 with ⟨hd2, rfl⟩ | ⟨hd2, rfl⟩
    · exact X9.ldcString C.1.1 (own := "SegmentTrees") (text := tx) (index := i1) (a := sa) hown hsa.1 hsa.2 (g := F0 m (pc + 3 + 1) ls [.ref T.heap.size, .ref T.heap.size]) rfl (by rw [C.1.2.1]; exact hd2) _ hsteps
    · exact X9.ldcStringW C.1.1 (own := "SegmentTrees") (text := tx) (index := i1) (a := sa) hown hsa.1 hsa.2 (g := F0 m (pc + 3 + 1) ls [.ref T.heap.size, .ref T.heap.size]) rfl (by rw [C.1.2.1]; exact hd2) _ hsteps
  obtain ⟨t, a1, b1⟩ := lv_dup C.1.1 C.1.2.1 hd1 rfl hk _ rfl X1
  exact ⟨t, st1 t a1, b1⟩
end ZT
end
section
/-! throws: a call that throws -/
theorem zz_blindX {D : va_G} {DA : Nat → ClassId} {h : zz_H} {sz : Nat} {as : List zz_V} : FrameBlind (zz_PcX D DA h sz as) := by
  intro a U g mk hq
  obtain ⟨q0, q1, q2⟩ := hq
  have h1 := zz_blind (D := D) (DA := DA) (h := h) (sz := sz) (as := as) a U g mk ⟨q0, q1⟩
  exact ⟨h1.1, h1.2, xx_G_go (U := U.calling g mk a) (State.WarmedH.refl U) q2 (fun _ _ _ => rfl) (fun _ z => z)⟩
section ZV
variable {p : Program} {l : Launch} {e : Env} {R : Room} {s : State} {m : MethodId} {args : Array Value} {below : List Frame} {meth : Method} {c : Code} {Q : State → Prop}
variable {D : va_G} {DA : Nat → ClassId} {A : Nat → Prop} {h0 h : zz_H} {nL kc ns pc q mc ms : Nat} {cc : ByteArray} {own : String} {L : List (Option zz_V)} {S : List zz_V} {post : String → zz_H → Prop}
def xx_Pre (R : Room) (rm : Room) (D : va_G) (DA : Nat → ClassId) (h : zz_H) (sz : Nat) (as : List zz_V) : Pt → Array Value → Prop := fun P a => P.cells + rm.cells ≤ R.cells ∧ P.slots + rm.slots ≤ R.slots ∧ zz_PcX D DA h sz as a P.U
def xx_Post (rm : Room) (D : va_G) (DA : Nat → ClassId) (h : zz_H) (sz : Nat) (post : String → zz_H → Prop) : Pt → Array Value → Addr → Pt → Prop := fun P a v B => ∃ (g : JFrame) (mk : MethodId) (t : State) (Lc : List Loc), B.U.heap = t.heap ∧ B.U.vm = t.vm ∧ zz_outX D DA (zz_A h sz) h post a (P.U.calling g mk a) (.threw v) t ∧ B.locs = P.locs ++ Lc ∧ (∀ z ∈ Lc, zz_A h sz z.base) ∧ B.cells = P.cells + rm.cells ∧ B.slots = P.slots + rm.slots
theorem xx_back {y : MethodName} {bytes : ByteArray} {maxL sz : Nat} {ret : Option FieldType} {rm : Room} {T : zz_TX} {as : List zz_V} (hM : zz_MetX l y (Cond.code y bytes maxL ret :: zz_all) rm T) (hts : ∀ w ∈ zz_all, w.before args s = true) (hwc : Cond.code y bytes maxL ret ∈ zz_all) (hwi : Cond.initialized y.cls ∈ zz_all) (hR : rm.frames + 1 ≤ R.frames ∧ 8 + (maxL + 11) + rm.locals ≤ R.locals) (hT : T as h post) :
    BackT l R p e below s args y 3 8 (xx_Pre R rm D DA h sz as) (xx_Post rm D DA h sz post) := by
  refine BackT.of_free (S := headSpec (Cond.code y bytes maxL ret :: zz_all) rm) (bytes := bytes) (maxL := maxL) (ret := ret) (E := fun _ _ _ _ Lc k n => k = rm.cells ∧ n = rm.slots ∧ ∀ z ∈ Lc, zz_A h sz z.base) (hM D DA h sz as post hT) hR.1 hR.2 ?_ ?_ (fun _ _ _ _ _ _ _ _ _ => trivial) ?_ ?_
  · intro m meth c P a X hp
    exact ⟨atoms_intro fun w hw => zz_pay hts hwc w hw _ _ X.warmed, zz_pay hts hwc _ List.mem_cons_self _ _ X.warmed, zz_payW (zz_good _ hwi) (hts _ hwi) X.warmed, hp.1, hp.2.1⟩
  · intro m meth c P a g mk X hp
    exact zz_blindX _ _ _ _ hp.2.2
  · intro a first o t ⟨hq, Lc, hF, hL⟩
    exact ⟨Lc, rm.cells, rm.slots, hF, rfl, rfl, hL⟩
  · intro m meth c P a g mk v t Lc k n X hp hq hF ⟨e1, e2, hL⟩
    subst e1; subst e2
    exact ⟨g, mk, t, Lc, rfl, rfl, hq.1, rfl, hL, rfl, rfl⟩
/-- a virtual call that throws, up to the throwing frame -/
theorem xx_runV (C : zz_C p s m args c cc nL own D DA) (hG : xx_G A s s.heap) {idx ci n b maxL : Nat} {y : MethodName} {bytes : ByteArray} {ret : Option FieldType} {rm : Room} {T : zz_TX} {st As : List zz_V} (hM : zz_MetX l y (Cond.code y bytes maxL ret :: zz_all) rm T) (hw : zz_CV own idx ci y bytes maxL ret n) (hd : decode cc pc = .ok (.invokevirtual idx, 3)) (hst : zz_popA n [] st = some (As, zz_r ci (some b), S)) (hnA : As.length = n)
    (hR : rm.frames + 1 ≤ R.frames ∧ 8 + (maxL + 11) + rm.locals ≤ R.locals) (hf : kc + rm.cells ≤ R.cells ∧ ns + rm.slots ≤ R.slots) (h8 : (S.map zz_cat).sum ≤ 8) (hT : T (zz_r ci (some b) :: As) h post)
    {H : Heap} {locs : List Loc} {ls : Array Slot} {T1 : State} (hW : zz_W D DA s h H) (hS : zz_S A s.heap h H locs) (hTS : zz_T h st) (hls : ls.size = nL) (hT1 : T1.heap = H) (Y : Stand p l e R s m args below meth c T1 locs kc ns) :
    ∃ (v : Addr) (X : String) (h' : zz_H) (T' : State) (Lc : List Loc), post X h' ∧ Stand p l e R s m args below meth c T' (locs ++ Lc) (kc + rm.cells) (ns + rm.slots) ∧ zz_le h h' ∧ zz_W D DA s h' T'.heap ∧ zz_S A s.heap h' T'.heap (locs ++ Lc) ∧ (∃ ce : Cell, T'.heap[v]? = some ce ∧ s.vm.findClass X = some ce.cls ∧ ce.vm = .none) ∧
      Steps p.tables e below (T1.setTop (F0 m pc ls (st.map zz_v))) ((T'.setTop (F0 m pc ls (S.map zz_v))).pushFrame (.throwing v)) := by
  obtain ⟨ys, hys, hAs⟩ := zz_popA_of n [] st As S _ hst
  rw [List.append_nil] at hAs
  obtain ⟨⟨T9, N9, hcl⟩, w1, w2, w3, w4, w5, w6, w7, w8⟩ := hw
  have k1 := (zz_okC ci y.cls T9 N9 hcl).1
  have hts := C.1.2.2.2.2
  have hTs : zz_T h (zz_r ci (some b) :: As) := by
    intro v hv
    apply hTS v
    rw [hys]
    rcases List.mem_cons.mp hv with rfl | hv
    · simp
    · rw [hAs] at hv
      simp [List.mem_reverse.mp hv]
  obtain ⟨nb, htb⟩ := (zz_T_h hTs) b rfl
  have htb : zz_tg h b = some (ci, nb) := htb
  obtain ⟨cellB, hcB, hoB, hclB⟩ := va_recv (q0 := 0) C.2 (zz_at1 hW (zz_cell_obj (DA := DA) htb k1)) hcl rfl
  obtain ⟨mk, methM, hnamed, hmethM, hstM, habM⟩ := Cond.instanceMethod_spec (hts _ w2)
  obtain ⟨methM', cM, hmethM', -, -, -, -, -, -, hsigM⟩ := Cond.code_spec hnamed (hts _ w5)
  cases hmethM.symm.trans hmethM'
  obtain ⟨c2, r2, m2, q1, q2, q3, q4, kP, hkP, hkPi⟩ := Cond.selects_spec (hts _ w3)
  cases hclB.symm.trans q1
  cases (State.methodFound?_of_named hnamed ⟨w6, w7⟩).symm.trans q2
  cases hnamed.symm.trans q3
  have hselP : selectMethod e.platform s.vm cellB.cls mk = .method mk := by rw [Launch.admits_selectMethod Y.admits]; exact q4
  have hstack : (F0 m pc ls (st.map zz_v)).stack = (As.map zz_v).reverse ++ .ref b :: S.map zz_v := by show st.map zz_v = _; rw [hys, hAs]; simp [zz_v, va_rf]
  obtain ⟨vm1, X1, hstep1⟩ := Y.invokevirtual C.1.1 C.1.2.2.2.1 (hts _ w1) hnamed hmethM hstM hkP hkPi ⟨w6, w7⟩ (a := b) (cell := cellB) (by rw [hT1]; exact hcB)
    (fun z hz => by rw [hz] at hoB; cases hoB) hselP hmethM habM hkP hkPi (g := F0 m pc ls (st.map zz_v)) rfl (argsL := As.map zz_v) (rest := S.map zz_v) (by rw [List.length_map, hnA]; exact zz_sig w8 _ hsigM) hstack (by rw [C.1.2.1]; exact hd)
  have hsz : s.heap.size ≤ H.size := hS.1.1
  have hpre : xx_Pre R rm D DA h H.size (zz_r ci (some b) :: As) ⟨T1.setVm vm1, locs, kc, ns⟩ (Value.ref b :: As.map zz_v).toArray := ⟨hf.1, hf.2, rfl, ⟨by show T1.heap.size = _; rw [hT1], by show zz_W D DA _ h T1.heap; rw [hT1]; exact zz_W_moved X1.warmed.alike hW, va_K.moved X1.warmed.alike C.2, hTs⟩, by
    show xx_G _ _ T1.heap
    rw [hT1]
    exact xx_G_go X1.warmed hG (fun a h1 h2 => hS.1.2.1 a h1 h2) (zz_sub hS)⟩
  obtain ⟨v, ⟨U', l2, c2, s2⟩, X', ⟨g', mk', t, Lc, e1, e2, ⟨x, X, h', hp, ho, hce, hE⟩, h1, hLc, h2, h3⟩, hsteps⟩ := xx_back (R := R) (p := p) (e := e) (below := below) (sz := H.size) hM hts w5 w4 hR hT m meth c ⟨T1.setVm vm1, locs, kc, ns⟩ (F0 m pc ls (S.map zz_v)) (.invokevirtual idx) mk (Value.ref b :: As.map zz_v).toArray X1 rfl (hls.trans C.1.2.2.1.symm) (by rw [C.1.2.1]; exact hd) (lv_room (zz_weigh h8)) (X1.named hnamed) hpre
  dsimp only [Pt.U, Pt.locs, Pt.cells, Pt.slots] at X' e1 e2 h1 h2 h3 hsteps
  subst h1; subst h2; subst h3
  have hx9 : v = x := by cases ho; rfl
  subst hx9
  obtain ⟨wv1, wv2⟩ := zz_behind (st₀ := (T1.setVm vm1).calling g' mk' (Value.ref b :: As.map zz_v).toArray) hS hT1 e1 (by rw [← e2]; exact X'.warmed.alike.symm) hLc hE
  refine ⟨v, X, h', U', Lc, hp, X', hE.2.1, wv1, wv2, ?_, hstep1 _ (fun acts => by rw [doInvoke_state]; exact hsteps)⟩
  obtain ⟨ce, g1, g2, g3⟩ := hce
  exact ⟨ce, by rw [e1]; exact g1, by rw [← X1.warmed.alike.findClass]; exact g2, g3⟩
/-- a virtual call throws, and nobody here catches it -/
theorem zz_callVX (C : zz_C p s m args c cc nL own D DA) (hx : zz_CX l s h0 meth c) {idx ci n b maxL : Nat} {y : MethodName} {bytes : ByteArray} {ret : Option FieldType} {rm : Room} {T : zz_TX} {o : Option Nat} {st As : List zz_V} (hM : zz_MetX l y (Cond.code y bytes maxL ret :: zz_all) rm T) (hw : zz_CV own idx ci y bytes maxL ret n) (hd : decode cc pc = .ok (.invokevirtual idx, 3)) (hst : zz_popA n [] st = some (As, zz_r ci o, S)) (hnA : As.length = n) (ho : o = some b)
    (hR : rm.frames + 1 ≤ R.frames ∧ 8 + (maxL + 11) + rm.locals ≤ R.locals) (hf : kc + rm.cells ≤ R.cells ∧ ns + rm.slots ≤ R.slots) (h8 : (S.map zz_cat).sum ≤ 8) (hQ : zz_EndX Q below args s D DA h0 post mc ms) (hc : kc + rm.cells ≤ mc) (hs : ns + rm.slots ≤ ms)
    (hT : T (zz_r ci (some b) :: As) h post) : zz_Z p l e R s m args below meth c Q D DA (zz_A h0 s.heap.size) h0 nL pc L st h kc ns := by
  subst ho
  intro H locs ls hW hS hle hTL hTS hL T1 hT1 Y
  obtain ⟨v, X, h', T', Lc, hp, X', hl9, w1, w2, hce, hsteps⟩ := xx_runV C hx.2.1 hM hw hd hst hnA hR hf h8 hT hW hS hTS hL.1 hT1 Y
  have hlk : meth.locks = false := hx.2.2.2
  obtain ⟨a1, a2, a3, a4, a5⟩ := X'.leaveThrown v (g := F0 m pc ls (S.map zz_v)) rfl rfl rfl (covers_of_empty hx.2.2.1 _)
  refine ⟨_, hsteps.trans a1, hQ _ ⟨.threw v, a2, a3, ⟨v, X, h', hp, rfl, hce, ?_⟩, locs ++ Lc, ⟨⟨v, rfl⟩, a4, a5.mono hc hs⟩, w2.1.2.2⟩⟩
  exact ⟨zz_W_moved a4.alike w1, zz_le_tr hle hl9, w2.1.F rfl, w2.2.2.1⟩
end ZV
end
section
/-! SegmentTrees: calls that may throw -/
abbrev zz_TB : Type := List zz_V → zz_H → (Option zz_V → zz_H → Prop) → (String → zz_H → Prop) → Prop
theorem opt_em (o : Option Nat) : o = none ∨ ∃ k, o = some k := by
  cases o with
  | none => exact Or.inl rfl
  | some k => exact Or.inr ⟨k, rfl⟩
def kd_lv (h : zz_H) : Prop := ∀ k n, zz_tg h k = some (1, n) → ∃ lv, lv < 4 ∧ zz_fI h 1 2 k = nI (lv + 1)
def B_T_declaredKind : zz_TB := fun as h post postX => ∃ a t, as = [zz_r 0 (some a), zz_i t] ∧ t_ok h a ∧ (t_k h a t = none → postX "java/lang/IllegalArgumentException" h) ∧ ∀ k, t_k h a t = some k → post (some (zz_r 1 (some k))) h
set_option maxRecDepth 100000 in
set_option maxHeartbeats 4000000 in
theorem m_T_declaredKind (l : Launch) : zz_Met l y_T_declaredKind w_T_declaredKind { frames := 6, cells := 1, slots := 6, locals := 90 } (fun as h post => B_T_declaredKind as h post (fun _ _ => False)) := by
  refine zz_ofZ (by decide) (fun as h post hT => ?_) ?_
  · obtain ⟨a, t, rfl, hok, hpX, hp⟩ := hT
    exact ⟨by simp [zz_cat], by simp⟩
  · intro D DA h as post hT p e s m args below meth c Q C hr hlk hnm hQ
    obtain ⟨a, t, rfl, hok, hpX, hp⟩ := hT
    refine zz_aload_n (q := 1) (f := 0) (i := 0) C (by decide +kernel) rfl rfl rfl ?_
    refine zz_iload_n (q := 2) (f := 1) (i := 1) C (by decide +kernel) rfl rfl rfl ?_
    refine zz_callV (q := 5) C (m_T_kindOf l) cv_T_51 (by decide +kernel) rfl rfl rfl (by first | rfl | assumption) (by decide) (by decide) (Nat.le_of_ble_eq_true rfl) ⟨_, _, rfl, hok, ?_⟩
    refine zz_astore_n (q := 6) (f := 2) (i := 2) C (by decide +kernel) rfl rfl (by decide) rfl ?_
    refine zz_aload_n (q := 7) (f := 2) (i := 2) C (by decide +kernel) rfl rfl rfl ?_
    refine zz_ifnonnull (off := 14) (tgt := 21) (q := 10) C (by decide +kernel) (by decide) rfl (fun a7 c7 => ?_) (fun c7 => ?_)
    · refine zz_aload_n (q := 22) (f := 2) (i := 2) C (by decide +kernel) rfl rfl rfl ?_
      refine zz_aret C hr (Or.inl ⟨_, rfl⟩) hlk (by decide +kernel) hQ (by decide) (by decide) ?_
      rw [c7]
      exact hp _ c7
    · exact False.elim (hpX c7)
set_option maxRecDepth 100000 in
set_option maxHeartbeats 4000000 in
theorem x_T_declaredKind (l : Launch) (hl : l.stackTraces = false) : zz_MetX l y_T_declaredKind w_T_declaredKind { frames := 6, cells := 1, slots := 6, locals := 90 } (fun as h postX => B_T_declaredKind as h (fun _ _ => False) postX) := by
  refine zz_ofX hl (by decide) (fun as h postX hT => ?_) ?_
  · obtain ⟨a, t, rfl, hok, hpX, hp⟩ := hT
    exact ⟨by simp [zz_cat], by simp⟩
  · intro D DA h as postX hT p e s m args below meth c Q C hx hnm hQ
    obtain ⟨a, t, rfl, hok, hpX, hp⟩ := hT
    refine zz_aload_n (q := 1) (f := 0) (i := 0) C (by decide +kernel) rfl rfl rfl ?_
    refine zz_iload_n (q := 2) (f := 1) (i := 1) C (by decide +kernel) rfl rfl rfl ?_
    refine zz_callV (q := 5) C (m_T_kindOf l) cv_T_51 (by decide +kernel) rfl rfl rfl (by first | rfl | assumption) (by decide) (by decide) (Nat.le_of_ble_eq_true rfl) ⟨_, _, rfl, hok, ?_⟩
    refine zz_astore_n (q := 6) (f := 2) (i := 2) C (by decide +kernel) rfl rfl (by decide) rfl ?_
    refine zz_aload_n (q := 7) (f := 2) (i := 2) C (by decide +kernel) rfl rfl rfl ?_
    refine zz_ifnonnull (off := 14) (tgt := 21) (q := 10) C (by decide +kernel) (by decide) rfl (fun a7 c7 => ?_) (fun c7 => ?_)
    · refine zz_aload_n (q := 22) (f := 2) (i := 2) C (by decide +kernel) rfl rfl rfl ?_
      exfalso
      exact hp _ c7
    · exact zz_throw (q := 17) (i0 := 44) (i1 := 264) (tx := "the type is not declared") C hx xx_ownA (by decide +kernel) (zz_in (i := 288) (by decide +kernel) (by decide +kernel)) (zz_in (i := 289) (by decide +kernel) (by decide +kernel)) (zz_in (i := 44) (by decide +kernel) (by decide +kernel)) (by decide +kernel) (by decide +kernel) (by decide +kernel) (Or.inr ⟨by decide +kernel, rfl⟩) (by decide +kernel) (by decide +kernel) hQ (by decide) (by decide) (by decide) (by decide) (by decide) (by decide) (hpX c7)

def B_T_refuseAfterInsert : zz_TB := fun as h post postX => ∃ a, as = [zz_r 0 (some a)] ∧ (zz_fI h 0 7 a ≠ 0 → postX "java/lang/IllegalStateException" h) ∧ (zz_fI h 0 7 a = 0 → post none h)
set_option maxRecDepth 100000 in
set_option maxHeartbeats 4000000 in
theorem m_T_refuseAfterInsert (l : Launch) : zz_Met l y_T_refuseAfterInsert w_T_refuseAfterInsert { frames := 6, cells := 1, slots := 6, locals := 90 } (fun as h post => B_T_refuseAfterInsert as h post (fun _ _ => False)) := by
  refine zz_ofZ (by decide) (fun as h post hT => ?_) ?_
  · obtain ⟨a, rfl, hpX, hp⟩ := hT
    exact ⟨by simp [zz_cat], by simp⟩
  · intro D DA h as post hT p e s m args below meth c Q C hr hlk hnm hQ
    obtain ⟨a, rfl, hpX, hp⟩ := hT
    refine zz_aload_n (q := 1) (f := 0) (i := 0) C (by decide +kernel) rfl rfl rfl ?_
    refine zz_getI (q := 4) C gf_T_194 (by decide +kernel) rfl (by first | rfl | assumption) rfl ?_
    refine zz_if_eq (off := 14) (tgt := 18) (q := 7) C (by decide +kernel) (by decide) rfl (fun c4 => ?_) (fun c4 => ?_)
    · refine zz_vret C hr hlk (by decide +kernel) hQ (by decide) (by decide) ?_
      exact hp c4
    · exact False.elim (hpX c4)
set_option maxRecDepth 100000 in
set_option maxHeartbeats 4000000 in
theorem x_T_refuseAfterInsert (l : Launch) (hl : l.stackTraces = false) : zz_MetX l y_T_refuseAfterInsert w_T_refuseAfterInsert { frames := 6, cells := 1, slots := 6, locals := 90 } (fun as h postX => B_T_refuseAfterInsert as h (fun _ _ => False) postX) := by
  refine zz_ofX hl (by decide) (fun as h postX hT => ?_) ?_
  · obtain ⟨a, rfl, hpX, hp⟩ := hT
    exact ⟨by simp [zz_cat], by simp⟩
  · intro D DA h as postX hT p e s m args below meth c Q C hx hnm hQ
    obtain ⟨a, rfl, hpX, hp⟩ := hT
    refine zz_aload_n (q := 1) (f := 0) (i := 0) C (by decide +kernel) rfl rfl rfl ?_
    refine zz_getI (q := 4) C gf_T_194 (by decide +kernel) rfl (by first | rfl | assumption) rfl ?_
    refine zz_if_eq (off := 14) (tgt := 18) (q := 7) C (by decide +kernel) (by decide) rfl (fun c4 => ?_) (fun c4 => ?_)
    · exfalso
      exact hp c4
    · exact zz_throw (q := 14) (i0 := 67) (i1 := 266) (tx := "a segment was inserted") C hx xx_ownS (by decide +kernel) (zz_in (i := 364) (by decide +kernel) (by decide +kernel)) (zz_in (i := 365) (by decide +kernel) (by decide +kernel)) (zz_in (i := 45) (by decide +kernel) (by decide +kernel)) (by decide +kernel) (by decide +kernel) (by decide +kernel) (Or.inr ⟨by decide +kernel, rfl⟩) (by decide +kernel) (by decide +kernel) hQ (by decide) (by decide) (by decide) (by decide) (by decide) (by decide) (hpX c4)

def B_T_within : zz_TB := fun as h post postX => ∃ a hd, as = [zz_r 0 (some a), zz_i hd] ∧ t_wf h a ∧ (zz_fR h 0 6 a = none → postX "java/lang/IllegalStateException" (t_h0 h a)) ∧ ∀ f i r, zz_fR h 0 6 a = some f → t_bf h a i → or_first (or_s h (t_od h a)) (i + if zz_fI h 6 1 (t_ps h a) = 0 then 0 else 1) (or_pm h (t_od h a) (t_pa h a) (some f)) (or_N h (t_od h a)) r → t_an h a hd r post
set_option maxRecDepth 100000 in
set_option maxHeartbeats 4000000 in
theorem m_T_within (l : Launch) : zz_Met l y_T_within w_T_within { frames := 6, cells := 1, slots := 6, locals := 126 } (fun as h post => B_T_within as h post (fun _ _ => False)) := by
  refine zz_ofZ (by decide) (fun as h post hT => ?_) ?_
  · obtain ⟨a, hd, rfl, hwf, hpX, hp⟩ := hT
    exact ⟨by simp [zz_cat], by simp⟩
  · intro D DA h as post hT p e s m args below meth c Q C hr hlk hnm hQ
    obtain ⟨a, hd, rfl, hwf, hpX, hp⟩ := hT
    refine zz_aload_n (q := 1) (f := 0) (i := 0) C (by decide +kernel) rfl rfl rfl ?_
    refine zz_null (q := 2) C 2 (by decide +kernel) rfl ?_
    refine zz_putR (q := 5) C gf_T_40 (fun h => by cases h) (by decide +kernel) rfl (by first | rfl | assumption) ?_
    show zz_Z p l e _ s m args below meth c Q D DA (zz_A h s.heap.size) h _ _ _ _ (t_h0 h a) 0 0
    have hwf0 : t_wf (t_h0 h a) a := hwf
    refine zz_aload_n (q := 6) (f := 0) (i := 0) C (by decide +kernel) rfl rfl rfl ?_
    refine zz_getR (q := 9) C gf_T_145 (by decide +kernel) rfl (by first | rfl | assumption) rfl ?_
    refine zz_ifnonnull (off := 13) (tgt := 22) (q := 12) C (by decide +kernel) (by decide) rfl (fun a9 c9 => ?_) (fun c9 => ?_)
    · refine zz_aload_n (q := 23) (f := 0) (i := 0) C (by decide +kernel) rfl rfl rfl ?_
      refine zz_aload_n (q := 24) (f := 0) (i := 0) C (by decide +kernel) rfl rfl rfl ?_
      refine zz_getR (q := 27) C gf_T_29 (by decide +kernel) rfl (by first | rfl | assumption) hwf.1.2.2.2.1 ?_
      refine zz_aload_n (q := 28) (f := 0) (i := 0) C (by decide +kernel) rfl rfl rfl ?_
      refine zz_getR (q := 31) C gf_T_22 (by decide +kernel) rfl (by first | rfl | assumption) hwf.1.2.2.1 ?_
      refine zz_aload_n (q := 32) (f := 0) (i := 0) C (by decide +kernel) rfl rfl rfl ?_
      refine zz_getR (q := 35) C gf_T_36 (by decide +kernel) rfl (by first | rfl | assumption) hwf.1.2.2.2.2.1 ?_
      refine zz_aload_n (q := 36) (f := 0) (i := 0) C (by decide +kernel) rfl rfl rfl ?_
      refine zz_getR (q := 39) C gf_T_29 (by decide +kernel) rfl (by first | rfl | assumption) hwf.1.2.2.2.1 ?_
      refine zz_callV (q := 42) C (m_Q_firstBehind l) cv_T_141 (by decide +kernel) rfl rfl rfl (by first | rfl | assumption) (by decide) (by decide) (Nat.le_of_ble_eq_true rfl) ⟨_, _, rfl, hwf0.2.1, fun i hi9 => ?_⟩
      have hi61 : (i + if zz_fI h 6 1 (t_ps h a) = 0 then 0 else 1) ≤ 61 := by
        have := t_bf_le hwf.2.1.1 hi9
        split <;> omega
      refine zz_aload_n (q := 43) (f := 0) (i := 0) C (by decide +kernel) rfl rfl rfl ?_
      refine zz_getR (q := 46) C gf_T_145 (by decide +kernel) rfl (by first | rfl | assumption) c9 ?_
      refine zz_callV (q := 49) C (m_O_firstThatMeets l) cv_T_133 (by decide +kernel) rfl rfl rfl (by first | rfl | assumption) (by decide) (by decide) (Nat.le_of_ble_eq_true rfl) ⟨_, _, _, _, rfl, hi61, hwf0.2.1, hwf0.2.2.1, hwf0.2.2.2.1, fun r hr9 => ?_⟩
      refine zz_iload_n (q := 50) (f := 1) (i := 1) C (by decide +kernel) rfl rfl rfl ?_
      refine zz_callV (q := 53) C (m_T_got l) cv_T_137 (by decide +kernel) rfl rfl rfl (by first | rfl | assumption) (by decide) (by decide) (Nat.le_of_ble_eq_true rfl) ⟨_, _, _, rfl, hwf0.1, fun z => ?_, fun s9 z => ?_⟩
      · refine zz_iret C hr hlk (by decide +kernel) hQ (by decide) (by decide) ?_
        exact (hp a9 i r c9 hi9 hr9).1 z
      · refine zz_iret C hr hlk (by decide +kernel) hQ (by decide) (by decide) ?_
        exact (hp a9 i r c9 hi9 hr9).2 s9 z
    · exact False.elim (hpX c9)
set_option maxRecDepth 100000 in
set_option maxHeartbeats 4000000 in
theorem x_T_within (l : Launch) (hl : l.stackTraces = false) : zz_MetX l y_T_within w_T_within { frames := 6, cells := 1, slots := 6, locals := 126 } (fun as h postX => B_T_within as h (fun _ _ => False) postX) := by
  refine zz_ofX hl (by decide) (fun as h postX hT => ?_) ?_
  · obtain ⟨a, hd, rfl, hwf, hpX, hp⟩ := hT
    exact ⟨by simp [zz_cat], by simp⟩
  · intro D DA h as postX hT p e s m args below meth c Q C hx hnm hQ
    obtain ⟨a, hd, rfl, hwf, hpX, hp⟩ := hT
    refine zz_aload_n (q := 1) (f := 0) (i := 0) C (by decide +kernel) rfl rfl rfl ?_
    refine zz_null (q := 2) C 2 (by decide +kernel) rfl ?_
    refine zz_putR (q := 5) C gf_T_40 (fun h => by cases h) (by decide +kernel) rfl (by first | rfl | assumption) ?_
    show zz_Z p l e _ s m args below meth c Q D DA (zz_A h s.heap.size) h _ _ _ _ (t_h0 h a) 0 0
    have hwf0 : t_wf (t_h0 h a) a := hwf
    refine zz_aload_n (q := 6) (f := 0) (i := 0) C (by decide +kernel) rfl rfl rfl ?_
    refine zz_getR (q := 9) C gf_T_145 (by decide +kernel) rfl (by first | rfl | assumption) rfl ?_
    refine zz_ifnonnull (off := 13) (tgt := 22) (q := 12) C (by decide +kernel) (by decide) rfl (fun a9 c9 => ?_) (fun c9 => ?_)
    · refine zz_aload_n (q := 23) (f := 0) (i := 0) C (by decide +kernel) rfl rfl rfl ?_
      refine zz_aload_n (q := 24) (f := 0) (i := 0) C (by decide +kernel) rfl rfl rfl ?_
      refine zz_getR (q := 27) C gf_T_29 (by decide +kernel) rfl (by first | rfl | assumption) hwf.1.2.2.2.1 ?_
      refine zz_aload_n (q := 28) (f := 0) (i := 0) C (by decide +kernel) rfl rfl rfl ?_
      refine zz_getR (q := 31) C gf_T_22 (by decide +kernel) rfl (by first | rfl | assumption) hwf.1.2.2.1 ?_
      refine zz_aload_n (q := 32) (f := 0) (i := 0) C (by decide +kernel) rfl rfl rfl ?_
      refine zz_getR (q := 35) C gf_T_36 (by decide +kernel) rfl (by first | rfl | assumption) hwf.1.2.2.2.2.1 ?_
      refine zz_aload_n (q := 36) (f := 0) (i := 0) C (by decide +kernel) rfl rfl rfl ?_
      refine zz_getR (q := 39) C gf_T_29 (by decide +kernel) rfl (by first | rfl | assumption) hwf.1.2.2.2.1 ?_
      refine zz_callV (q := 42) C (m_Q_firstBehind l) cv_T_141 (by decide +kernel) rfl rfl rfl (by first | rfl | assumption) (by decide) (by decide) (Nat.le_of_ble_eq_true rfl) ⟨_, _, rfl, hwf0.2.1, fun i hi9 => ?_⟩
      have hi61 : (i + if zz_fI h 6 1 (t_ps h a) = 0 then 0 else 1) ≤ 61 := by
        have := t_bf_le hwf.2.1.1 hi9
        split <;> omega
      refine zz_aload_n (q := 43) (f := 0) (i := 0) C (by decide +kernel) rfl rfl rfl ?_
      refine zz_getR (q := 46) C gf_T_145 (by decide +kernel) rfl (by first | rfl | assumption) c9 ?_
      refine zz_callV (q := 49) C (m_O_firstThatMeets l) cv_T_133 (by decide +kernel) rfl rfl rfl (by first | rfl | assumption) (by decide) (by decide) (Nat.le_of_ble_eq_true rfl) ⟨_, _, _, _, rfl, hi61, hwf0.2.1, hwf0.2.2.1, hwf0.2.2.2.1, fun r hr9 => ?_⟩
      refine zz_iload_n (q := 50) (f := 1) (i := 1) C (by decide +kernel) rfl rfl rfl ?_
      refine zz_callV (q := 53) C (m_T_got l) cv_T_137 (by decide +kernel) rfl rfl rfl (by first | rfl | assumption) (by decide) (by decide) (Nat.le_of_ble_eq_true rfl) ⟨_, _, _, rfl, hwf0.1, fun z => ?_, fun s9 z => ?_⟩
      · exfalso
        exact (hp a9 i r c9 hi9 hr9).1 z
      · exfalso
        exact (hp a9 i r c9 hi9 hr9).2 s9 z
    · exact zz_throw (q := 18) (i0 := 67) (i1 := 148) (tx := "no parent is fixed") C hx xx_ownS (by decide +kernel) (zz_in (i := 364) (by decide +kernel) (by decide +kernel)) (zz_in (i := 365) (by decide +kernel) (by decide +kernel)) (zz_in (i := 45) (by decide +kernel) (by decide +kernel)) (by decide +kernel) (by decide +kernel) (by decide +kernel) (Or.inl ⟨by decide +kernel, rfl⟩) (by decide +kernel) (by decide +kernel) hQ (by decide) (by decide) (by decide) (by decide) (by decide) (by decide) (hpX c9)

def B_T_fix : zz_TB := fun as h post postX => ∃ a, as = [zz_r 0 (some a)] ∧ t_ok h a ∧ (t_sd h a = none → postX "java/lang/IllegalStateException" (t_h0 h a)) ∧ ∀ s, t_sd h a = some s → post (some (zz_i (zz_fI h 2 0 s))) (zz_pR (t_h0 h a) 0 6 a (some s))
set_option maxRecDepth 100000 in
set_option maxHeartbeats 4000000 in
theorem m_T_fix (l : Launch) : zz_Met l y_T_fix w_T_fix { frames := 6, cells := 1, slots := 6, locals := 90 } (fun as h post => B_T_fix as h post (fun _ _ => False)) := by
  refine zz_ofZ (by decide) (fun as h post hT => ?_) ?_
  · obtain ⟨a, rfl, hok, hpX, hp⟩ := hT
    exact ⟨by simp [zz_cat], by simp⟩
  · intro D DA h as post hT p e s m args below meth c Q C hr hlk hnm hQ
    obtain ⟨a, rfl, hok, hpX, hp⟩ := hT
    refine zz_aload_n (q := 1) (f := 0) (i := 0) C (by decide +kernel) rfl rfl rfl ?_
    refine zz_null (q := 2) C 2 (by decide +kernel) rfl ?_
    refine zz_putR (q := 5) C gf_T_40 (fun h => by cases h) (by decide +kernel) rfl (by first | rfl | assumption) ?_
    show zz_Z p l e _ s m args below meth c Q D DA (zz_A h s.heap.size) h _ _ _ _ (t_h0 h a) 0 0
    
    refine zz_aload_n (q := 6) (f := 0) (i := 0) C (by decide +kernel) rfl rfl rfl ?_
    refine zz_getR (q := 9) C gf_T_36 (by decide +kernel) rfl (by first | rfl | assumption) hok.2.2.2.2.1 ?_
    refine zz_callV (q := 12) C (m_Q_standing l) cv_T_150 (by decide +kernel) rfl rfl rfl (by first | rfl | assumption) (by decide) (by decide) (Nat.le_of_ble_eq_true rfl) ⟨_, rfl, ?_⟩
    refine zz_astore_n (q := 13) (f := 1) (i := 1) C (by decide +kernel) rfl rfl (by decide) rfl ?_
    refine zz_aload_n (q := 14) (f := 1) (i := 1) C (by decide +kernel) rfl rfl rfl ?_
    refine zz_ifnonnull (off := 13) (tgt := 27) (q := 17) C (by decide +kernel) (by decide) rfl (fun a14 c14 => ?_) (fun c14 => ?_)
    · rw [c14]
      refine zz_aload_n (q := 28) (f := 0) (i := 0) C (by decide +kernel) rfl rfl rfl ?_
      refine zz_aload_n (q := 29) (f := 1) (i := 1) C (by decide +kernel) rfl rfl rfl ?_
      refine zz_putR (q := 32) C gf_T_145 (fun h => by cases h) (by decide +kernel) rfl (by first | rfl | assumption) ?_
      refine zz_aload_n (q := 33) (f := 1) (i := 1) C (by decide +kernel) rfl rfl rfl ?_
      refine zz_getI (q := 36) C gf_T_156 (by decide +kernel) rfl (by first | rfl | assumption) rfl ?_
      refine zz_iret C hr hlk (by decide +kernel) hQ (by decide) (by decide) ?_
      exact hp _ c14
    · exact False.elim (hpX c14)
set_option maxRecDepth 100000 in
set_option maxHeartbeats 4000000 in
theorem x_T_fix (l : Launch) (hl : l.stackTraces = false) : zz_MetX l y_T_fix w_T_fix { frames := 6, cells := 1, slots := 6, locals := 90 } (fun as h postX => B_T_fix as h (fun _ _ => False) postX) := by
  refine zz_ofX hl (by decide) (fun as h postX hT => ?_) ?_
  · obtain ⟨a, rfl, hok, hpX, hp⟩ := hT
    exact ⟨by simp [zz_cat], by simp⟩
  · intro D DA h as postX hT p e s m args below meth c Q C hx hnm hQ
    obtain ⟨a, rfl, hok, hpX, hp⟩ := hT
    refine zz_aload_n (q := 1) (f := 0) (i := 0) C (by decide +kernel) rfl rfl rfl ?_
    refine zz_null (q := 2) C 2 (by decide +kernel) rfl ?_
    refine zz_putR (q := 5) C gf_T_40 (fun h => by cases h) (by decide +kernel) rfl (by first | rfl | assumption) ?_
    show zz_Z p l e _ s m args below meth c Q D DA (zz_A h s.heap.size) h _ _ _ _ (t_h0 h a) 0 0
    
    refine zz_aload_n (q := 6) (f := 0) (i := 0) C (by decide +kernel) rfl rfl rfl ?_
    refine zz_getR (q := 9) C gf_T_36 (by decide +kernel) rfl (by first | rfl | assumption) hok.2.2.2.2.1 ?_
    refine zz_callV (q := 12) C (m_Q_standing l) cv_T_150 (by decide +kernel) rfl rfl rfl (by first | rfl | assumption) (by decide) (by decide) (Nat.le_of_ble_eq_true rfl) ⟨_, rfl, ?_⟩
    refine zz_astore_n (q := 13) (f := 1) (i := 1) C (by decide +kernel) rfl rfl (by decide) rfl ?_
    refine zz_aload_n (q := 14) (f := 1) (i := 1) C (by decide +kernel) rfl rfl rfl ?_
    refine zz_ifnonnull (off := 13) (tgt := 27) (q := 17) C (by decide +kernel) (by decide) rfl (fun a14 c14 => ?_) (fun c14 => ?_)
    · rw [c14]
      refine zz_aload_n (q := 28) (f := 0) (i := 0) C (by decide +kernel) rfl rfl rfl ?_
      refine zz_aload_n (q := 29) (f := 1) (i := 1) C (by decide +kernel) rfl rfl rfl ?_
      refine zz_putR (q := 32) C gf_T_145 (fun h => by cases h) (by decide +kernel) rfl (by first | rfl | assumption) ?_
      refine zz_aload_n (q := 33) (f := 1) (i := 1) C (by decide +kernel) rfl rfl rfl ?_
      refine zz_getI (q := 36) C gf_T_156 (by decide +kernel) rfl (by first | rfl | assumption) rfl ?_
      exfalso
      exact hp _ c14
    · exact zz_throw (q := 23) (i0 := 67) (i1 := 154) (tx := "the position is at no segment") C hx xx_ownS (by decide +kernel) (zz_in (i := 364) (by decide +kernel) (by decide +kernel)) (zz_in (i := 365) (by decide +kernel) (by decide +kernel)) (zz_in (i := 45) (by decide +kernel) (by decide +kernel)) (by decide +kernel) (by decide +kernel) (by decide +kernel) (Or.inl ⟨by decide +kernel, rfl⟩) (by decide +kernel) (by decide +kernel) hQ (by decide) (by decide) (by decide) (by decide) (by decide) (by decide) (hpX c14)

def B_T_word : zz_TB := fun as h post postX => ∃ a i, as = [zz_r 0 (some a), zz_i i] ∧ t_ok h a ∧ sg_wf h ∧ kd_wf h ∧ (t_sd h a = none → postX "java/lang/IllegalStateException" h) ∧ ∀ s, t_sd h a = some s → (¬ (0 ≤ i ∧ i < zz_fI h 1 3 (sg_k h s)) → postX "java/lang/IndexOutOfBoundsException" h) ∧ (0 ≤ i ∧ i < zz_fI h 1 3 (sg_k h s) → post (some (zz_i (zz_aI h (sg_w h s) i.toNatClampNeg))) h)
set_option maxRecDepth 100000 in
set_option maxHeartbeats 4000000 in
theorem m_T_word (l : Launch) : zz_Met l y_T_word w_T_word { frames := 6, cells := 1, slots := 6, locals := 90 } (fun as h post => B_T_word as h post (fun _ _ => False)) := by
  refine zz_ofZ (by decide) (fun as h post hT => ?_) ?_
  · obtain ⟨a, i, rfl, hok, hwf, hkw, hpX, hp⟩ := hT
    exact ⟨by simp [zz_cat], by simp⟩
  · intro D DA h as post hT p e s m args below meth c Q C hr hlk hnm hQ
    obtain ⟨a, i, rfl, hok, hwf, hkw, hpX, hp⟩ := hT
    refine zz_aload_n (q := 1) (f := 0) (i := 0) C (by decide +kernel) rfl rfl rfl ?_
    refine zz_getR (q := 4) C gf_T_36 (by decide +kernel) rfl (by first | rfl | assumption) hok.2.2.2.2.1 ?_
    refine zz_callV (q := 7) C (m_Q_standing l) cv_T_150 (by decide +kernel) rfl rfl rfl (by first | rfl | assumption) (by decide) (by decide) (Nat.le_of_ble_eq_true rfl) ⟨_, rfl, ?_⟩
    refine zz_astore_n (q := 8) (f := 2) (i := 2) C (by decide +kernel) rfl rfl (by decide) rfl ?_
    refine zz_aload_n (q := 9) (f := 2) (i := 2) C (by decide +kernel) rfl rfl rfl ?_
    refine zz_ifnonnull (off := 13) (tgt := 22) (q := 12) C (by decide +kernel) (by decide) rfl (fun a9 c9 => ?_) (fun c9 => ?_)
    · refine zz_know (fun hty _ hTL _ => ?_)
      obtain ⟨ns, hts⟩ := hTL 2 _ rfl _ c9
      have hos : sg_ok h a9 := hwf _ ns hts
      obtain ⟨nk, htk⟩ := hty.1 _ 2 ns 1 1 hts (by decide) rfl _ hos.1
      have hks : kd_ok h (sg_k h a9) := hkw _ nk htk
      refine zz_aload_n (q := 23) (f := 2) (i := 2) C (by decide +kernel) rfl rfl rfl ?_
      refine zz_getR (q := 26) C gf_T_168 (by decide +kernel) rfl (by first | rfl | assumption) hos.1 ?_
      refine zz_iload_n (q := 27) (f := 1) (i := 1) C (by decide +kernel) rfl rfl rfl ?_
      refine zz_callV (q := 30) C (m_K_hasWord l) cv_T_108 (by decide +kernel) rfl rfl rfl (by first | rfl | assumption) (by decide) (by decide) (Nat.le_of_ble_eq_true rfl) ⟨_, _, rfl, ?_⟩
      refine zz_if_ne (off := 13) (tgt := 43) (q := 33) C (by decide +kernel) (by decide) rfl (fun c30 => ?_) (fun c30 => ?_)
      · have h9 := zz_b_t c30
        obtain ⟨ln, hl1, hl2⟩ := hks.2
        have h8 := nI_in9 hl2 (by omega) (Int32.not_lt.mpr h9.1) h9.2
        refine zz_aload_n (q := 44) (f := 2) (i := 2) C (by decide +kernel) rfl rfl rfl ?_
        refine zz_getR (q := 47) C gf_T_176 (by decide +kernel) rfl (by first | rfl | assumption) hos.2.1 ?_
        refine zz_iload_n (q := 48) (f := 1) (i := 1) C (by decide +kernel) rfl rfl rfl ?_
        refine zz_iaload (q := 49) C (by decide +kernel) rfl rfl hos.2.2.1 h8.2 (by omega) (by decide) rfl ?_
        refine zz_iret C hr hlk (by decide +kernel) hQ (by decide) (by decide) ?_
        exact (hp _ c9).2 h9
      · exact False.elim ((hp _ c9).1 (zz_b_f c30))
    · exact False.elim (hpX c9)
set_option maxRecDepth 100000 in
set_option maxHeartbeats 4000000 in
theorem x_T_word (l : Launch) (hl : l.stackTraces = false) : zz_MetX l y_T_word w_T_word { frames := 6, cells := 1, slots := 6, locals := 90 } (fun as h postX => B_T_word as h (fun _ _ => False) postX) := by
  refine zz_ofX hl (by decide) (fun as h postX hT => ?_) ?_
  · obtain ⟨a, i, rfl, hok, hwf, hkw, hpX, hp⟩ := hT
    exact ⟨by simp [zz_cat], by simp⟩
  · intro D DA h as postX hT p e s m args below meth c Q C hx hnm hQ
    obtain ⟨a, i, rfl, hok, hwf, hkw, hpX, hp⟩ := hT
    refine zz_aload_n (q := 1) (f := 0) (i := 0) C (by decide +kernel) rfl rfl rfl ?_
    refine zz_getR (q := 4) C gf_T_36 (by decide +kernel) rfl (by first | rfl | assumption) hok.2.2.2.2.1 ?_
    refine zz_callV (q := 7) C (m_Q_standing l) cv_T_150 (by decide +kernel) rfl rfl rfl (by first | rfl | assumption) (by decide) (by decide) (Nat.le_of_ble_eq_true rfl) ⟨_, rfl, ?_⟩
    refine zz_astore_n (q := 8) (f := 2) (i := 2) C (by decide +kernel) rfl rfl (by decide) rfl ?_
    refine zz_aload_n (q := 9) (f := 2) (i := 2) C (by decide +kernel) rfl rfl rfl ?_
    refine zz_ifnonnull (off := 13) (tgt := 22) (q := 12) C (by decide +kernel) (by decide) rfl (fun a9 c9 => ?_) (fun c9 => ?_)
    · refine zz_know (fun hty _ hTL _ => ?_)
      obtain ⟨ns, hts⟩ := hTL 2 _ rfl _ c9
      have hos : sg_ok h a9 := hwf _ ns hts
      obtain ⟨nk, htk⟩ := hty.1 _ 2 ns 1 1 hts (by decide) rfl _ hos.1
      have hks : kd_ok h (sg_k h a9) := hkw _ nk htk
      refine zz_aload_n (q := 23) (f := 2) (i := 2) C (by decide +kernel) rfl rfl rfl ?_
      refine zz_getR (q := 26) C gf_T_168 (by decide +kernel) rfl (by first | rfl | assumption) hos.1 ?_
      refine zz_iload_n (q := 27) (f := 1) (i := 1) C (by decide +kernel) rfl rfl rfl ?_
      refine zz_callV (q := 30) C (m_K_hasWord l) cv_T_108 (by decide +kernel) rfl rfl rfl (by first | rfl | assumption) (by decide) (by decide) (Nat.le_of_ble_eq_true rfl) ⟨_, _, rfl, ?_⟩
      refine zz_if_ne (off := 13) (tgt := 43) (q := 33) C (by decide +kernel) (by decide) rfl (fun c30 => ?_) (fun c30 => ?_)
      · have h9 := zz_b_t c30
        obtain ⟨ln, hl1, hl2⟩ := hks.2
        have h8 := nI_in9 hl2 (by omega) (Int32.not_lt.mpr h9.1) h9.2
        refine zz_aload_n (q := 44) (f := 2) (i := 2) C (by decide +kernel) rfl rfl rfl ?_
        refine zz_getR (q := 47) C gf_T_176 (by decide +kernel) rfl (by first | rfl | assumption) hos.2.1 ?_
        refine zz_iload_n (q := 48) (f := 1) (i := 1) C (by decide +kernel) rfl rfl rfl ?_
        refine zz_iaload (q := 49) C (by decide +kernel) rfl rfl hos.2.2.1 h8.2 (by omega) (by decide) rfl ?_
        exfalso
        exact (hp _ c9).2 h9
      · exact zz_throw (q := 39) (i0 := 171) (i1 := 173) (tx := "the segment has no such word") C hx xx_ownB (by decide +kernel) (zz_in (i := 519) (by decide +kernel) (by decide +kernel)) (zz_in (i := 520) (by decide +kernel) (by decide +kernel)) (zz_in (i := 47) (by decide +kernel) (by decide +kernel)) (by decide +kernel) (by decide +kernel) (by decide +kernel) (Or.inl ⟨by decide +kernel, rfl⟩) (by decide +kernel) (by decide +kernel) hQ (by decide) (by decide) (by decide) (by decide) (by decide) (by decide) ((hp _ c9).1 (zz_b_f c30))
    · exact zz_throw (q := 18) (i0 := 67) (i1 := 154) (tx := "the position is at no segment") C hx xx_ownS (by decide +kernel) (zz_in (i := 364) (by decide +kernel) (by decide +kernel)) (zz_in (i := 365) (by decide +kernel) (by decide +kernel)) (zz_in (i := 45) (by decide +kernel) (by decide +kernel)) (by decide +kernel) (by decide +kernel) (by decide +kernel) (Or.inl ⟨by decide +kernel, rfl⟩) (by decide +kernel) (by decide +kernel) hQ (by decide) (by decide) (by decide) (by decide) (by decide) (by decide) (hpX c9)

def B_T_work : zz_TB := fun as h post postX => ∃ a i v, as = [zz_r 0 (some a), zz_i i, zz_i v] ∧ t_ok h a ∧ (¬ (0 ≤ i ∧ i < 4) → postX "java/lang/IllegalArgumentException" h) ∧ (0 ≤ i → i < 4 → post none (zz_sI h (t_ww h a) i.toNatClampNeg v))
set_option maxRecDepth 100000 in
set_option maxHeartbeats 4000000 in
theorem m_T_work (l : Launch) : zz_Met l y_T_work w_T_work { frames := 6, cells := 1, slots := 6, locals := 90 } (fun as h post => B_T_work as h post (fun _ _ => False)) := by
  refine zz_ofZ (by decide) (fun as h post hT => ?_) ?_
  · obtain ⟨a, i, v, rfl, hok, hpX, hp⟩ := hT
    exact ⟨by simp [zz_cat], by simp⟩
  · intro D DA h as post hT p e s m args below meth c Q C hr hlk hnm hQ
    obtain ⟨a, i, v, rfl, hok, hpX, hp⟩ := hT
    refine zz_iload_n (q := 1) (f := 1) (i := 1) C (by decide +kernel) rfl rfl rfl ?_
    refine zz_if_lt (off := 8) (tgt := 9) (q := 4) C (by decide +kernel) (by decide) rfl (fun c1 => ?_) (fun c1 => ?_)
    · exact False.elim (hpX (fun z => absurd c1 (Int32.not_lt.mpr z.1)))
    · refine zz_iload_n (q := 5) (f := 1) (i := 1) C (by decide +kernel) rfl rfl rfl ?_
      refine zz_iconst (q := 6) (n := 4) (x := 4) C (by decide +kernel) rfl (by decide +kernel) ?_
      refine zz_icmp_lt (off := 13) (tgt := 19) (q := 9) C (by decide +kernel) (by decide) rfl (fun c6 => ?_) (fun c6 => ?_)
      · have h9 := nI_in9 (n := 4) rfl (by decide) c1 c6
        refine zz_aload_n (q := 20) (f := 0) (i := 0) C (by decide +kernel) rfl rfl rfl ?_
        refine zz_getR (q := 23) C gf_T_15 (by decide +kernel) rfl (by first | rfl | assumption) hok.2.1 ?_
        refine zz_iload_n (q := 24) (f := 1) (i := 1) C (by decide +kernel) rfl rfl rfl ?_
        refine zz_iload_n (q := 25) (f := 2) (i := 2) C (by decide +kernel) rfl rfl rfl ?_
        refine zz_iastore (q := 26) C (by decide +kernel) rfl rfl hok.2.2.2.2.2.2 h9.2 h9.1 (by decide) ?_
        refine zz_vret C hr hlk (by decide +kernel) hQ (by decide) (by decide) ?_
        exact hp (Int32.not_lt.mp c1) c6
      · exact False.elim (hpX (fun z => absurd z.2 c6))
set_option maxRecDepth 100000 in
set_option maxHeartbeats 4000000 in
theorem x_T_work (l : Launch) (hl : l.stackTraces = false) : zz_MetX l y_T_work w_T_work { frames := 6, cells := 1, slots := 6, locals := 90 } (fun as h postX => B_T_work as h (fun _ _ => False) postX) := by
  refine zz_ofX hl (by decide) (fun as h postX hT => ?_) ?_
  · obtain ⟨a, i, v, rfl, hok, hpX, hp⟩ := hT
    exact ⟨by simp [zz_cat], by simp⟩
  · intro D DA h as postX hT p e s m args below meth c Q C hx hnm hQ
    obtain ⟨a, i, v, rfl, hok, hpX, hp⟩ := hT
    refine zz_iload_n (q := 1) (f := 1) (i := 1) C (by decide +kernel) rfl rfl rfl ?_
    refine zz_if_lt (off := 8) (tgt := 9) (q := 4) C (by decide +kernel) (by decide) rfl (fun c1 => ?_) (fun c1 => ?_)
    · exact zz_throw (q := 15) (i0 := 44) (i1 := 131) (tx := "there is no such word to work with") C hx xx_ownA (by decide +kernel) (zz_in (i := 288) (by decide +kernel) (by decide +kernel)) (zz_in (i := 289) (by decide +kernel) (by decide +kernel)) (zz_in (i := 44) (by decide +kernel) (by decide +kernel)) (by decide +kernel) (by decide +kernel) (by decide +kernel) (Or.inl ⟨by decide +kernel, rfl⟩) (by decide +kernel) (by decide +kernel) hQ (by decide) (by decide) (by decide) (by decide) (by decide) (by decide) (hpX (fun z => absurd c1 (Int32.not_lt.mpr z.1)))
    · refine zz_iload_n (q := 5) (f := 1) (i := 1) C (by decide +kernel) rfl rfl rfl ?_
      refine zz_iconst (q := 6) (n := 4) (x := 4) C (by decide +kernel) rfl (by decide +kernel) ?_
      refine zz_icmp_lt (off := 13) (tgt := 19) (q := 9) C (by decide +kernel) (by decide) rfl (fun c6 => ?_) (fun c6 => ?_)
      · have h9 := nI_in9 (n := 4) rfl (by decide) c1 c6
        refine zz_aload_n (q := 20) (f := 0) (i := 0) C (by decide +kernel) rfl rfl rfl ?_
        refine zz_getR (q := 23) C gf_T_15 (by decide +kernel) rfl (by first | rfl | assumption) hok.2.1 ?_
        refine zz_iload_n (q := 24) (f := 1) (i := 1) C (by decide +kernel) rfl rfl rfl ?_
        refine zz_iload_n (q := 25) (f := 2) (i := 2) C (by decide +kernel) rfl rfl rfl ?_
        refine zz_iastore (q := 26) C (by decide +kernel) rfl rfl hok.2.2.2.2.2.2 h9.2 h9.1 (by decide) ?_
        exfalso
        exact hp (Int32.not_lt.mp c1) c6
      · exact zz_throw (q := 15) (i0 := 44) (i1 := 131) (tx := "there is no such word to work with") C hx xx_ownA (by decide +kernel) (zz_in (i := 288) (by decide +kernel) (by decide +kernel)) (zz_in (i := 289) (by decide +kernel) (by decide +kernel)) (zz_in (i := 44) (by decide +kernel) (by decide +kernel)) (by decide +kernel) (by decide +kernel) (by decide +kernel) (Or.inl ⟨by decide +kernel, rfl⟩) (by decide +kernel) (by decide +kernel) hQ (by decide) (by decide) (by decide) (by decide) (by decide) (by decide) (hpX (fun z => absurd z.2 c6))

def B_T_bySecond : zz_TB := fun as h post postX => ∃ a on, as = [zz_r 0 (some a), zz_i on] ∧ (on = 0 ∨ on = 1) ∧ t_wf h a ∧ or_okB h (t_od h a) ∧ or_sw h (t_od h a) ∧ (zz_fR h 5 3 (t_od h a) = none → postX "java/lang/IllegalStateException" (t_h0 h a)) ∧ (zz_fR h 5 3 (t_od h a) ≠ none → ∀ h2, or_arr (zz_pI (t_h0 h a) 5 5 (t_od h a) on) (t_od h a) h2 → post none (zz_pI (zz_pI (zz_pR h2 6 0 (t_ps h a) none) 6 1 (t_ps h a) 0) 6 2 (t_ps h a) 0))
set_option maxRecDepth 100000 in
set_option maxHeartbeats 4000000 in
theorem m_T_bySecond (l : Launch) : zz_Met l y_T_bySecond w_T_bySecond { frames := 7, cells := 1, slots := 6, locals := 146 } (fun as h post => B_T_bySecond as h post (fun _ _ => False)) := by
  refine zz_ofZ (by decide) (fun as h post hT => ?_) ?_
  · obtain ⟨a, on, rfl, hon, hwf, hob, hsw, hpX, hp⟩ := hT
    exact ⟨by simp [zz_cat], by simp⟩
  · intro D DA h as post hT p e s m args below meth c Q C hr hlk hnm hQ
    obtain ⟨a, on, rfl, hon, hwf, hob, hsw, hpX, hp⟩ := hT
    refine zz_aload_n (q := 1) (f := 0) (i := 0) C (by decide +kernel) rfl rfl rfl ?_
    refine zz_null (q := 2) C 2 (by decide +kernel) rfl ?_
    refine zz_putR (q := 5) C gf_T_40 (fun h => by cases h) (by decide +kernel) rfl (by first | rfl | assumption) ?_
    show zz_Z p l e _ s m args below meth c Q D DA (zz_A h s.heap.size) h _ _ _ _ (t_h0 h a) 0 0
    
    refine zz_aload_n (q := 6) (f := 0) (i := 0) C (by decide +kernel) rfl rfl rfl ?_
    refine zz_getR (q := 9) C gf_T_29 (by decide +kernel) rfl (by first | rfl | assumption) hwf.1.2.2.2.1 ?_
    refine zz_callV (q := 12) C (m_O_hasSecond l) cv_T_239 (by decide +kernel) rfl rfl rfl (by first | rfl | assumption) (by decide) (by decide) (Nat.le_of_ble_eq_true rfl) ⟨_, rfl, ?_⟩
    refine zz_if_ne (off := 13) (tgt := 25) (q := 15) C (by decide +kernel) (by decide) rfl (fun c12 => ?_) (fun c12 => ?_)
    · refine zz_aload_n (q := 26) (f := 0) (i := 0) C (by decide +kernel) rfl rfl rfl ?_
      refine zz_getR (q := 29) C gf_T_29 (by decide +kernel) rfl (by first | rfl | assumption) hwf.1.2.2.2.1 ?_
      refine zz_iload_n (q := 30) (f := 1) (i := 1) C (by decide +kernel) rfl rfl rfl ?_
      refine zz_callV (q := 33) C (m_O_turnSecond l) cv_T_244 (by decide +kernel) rfl rfl rfl (by first | rfl | assumption) (by decide) (by decide) (Nat.le_of_ble_eq_true rfl) ⟨_, _, rfl, hon, hob, hwf.2.2.2.1, hsw, fun h2 hh => ?_⟩
      have hsm := (or_sm_arr hh).1
      have hps : zz_fR h2 0 4 a = some (t_ps h a) := (hsm.2.2.2.1 0 4 a (by decide)).trans hwf.1.2.2.2.2.1
      refine zz_aload_n (q := 34) (f := 0) (i := 0) C (by decide +kernel) rfl rfl rfl ?_
      refine zz_getR (q := 37) C gf_T_36 (by decide +kernel) rfl (by first | rfl | assumption) hps ?_
      refine zz_callV (q := 40) C (m_Q_standInFrontOfAll l) cv_T_248 (by decide +kernel) rfl rfl rfl (by first | rfl | assumption) (by decide) (by decide) (Nat.le_of_ble_eq_true rfl) ⟨_, rfl, ?_⟩
      refine zz_vret C hr hlk (by decide +kernel) hQ (by decide) (by decide) ?_
      exact hp (zz_b_t c12) h2 hh
    · exact False.elim (hpX (Classical.byContradiction (fun z => zz_b_f c12 z)))
set_option maxRecDepth 100000 in
set_option maxHeartbeats 4000000 in
theorem x_T_bySecond (l : Launch) (hl : l.stackTraces = false) : zz_MetX l y_T_bySecond w_T_bySecond { frames := 7, cells := 1, slots := 6, locals := 146 } (fun as h postX => B_T_bySecond as h (fun _ _ => False) postX) := by
  refine zz_ofX hl (by decide) (fun as h postX hT => ?_) ?_
  · obtain ⟨a, on, rfl, hon, hwf, hob, hsw, hpX, hp⟩ := hT
    exact ⟨by simp [zz_cat], by simp⟩
  · intro D DA h as postX hT p e s m args below meth c Q C hx hnm hQ
    obtain ⟨a, on, rfl, hon, hwf, hob, hsw, hpX, hp⟩ := hT
    refine zz_aload_n (q := 1) (f := 0) (i := 0) C (by decide +kernel) rfl rfl rfl ?_
    refine zz_null (q := 2) C 2 (by decide +kernel) rfl ?_
    refine zz_putR (q := 5) C gf_T_40 (fun h => by cases h) (by decide +kernel) rfl (by first | rfl | assumption) ?_
    show zz_Z p l e _ s m args below meth c Q D DA (zz_A h s.heap.size) h _ _ _ _ (t_h0 h a) 0 0
    
    refine zz_aload_n (q := 6) (f := 0) (i := 0) C (by decide +kernel) rfl rfl rfl ?_
    refine zz_getR (q := 9) C gf_T_29 (by decide +kernel) rfl (by first | rfl | assumption) hwf.1.2.2.2.1 ?_
    refine zz_callV (q := 12) C (m_O_hasSecond l) cv_T_239 (by decide +kernel) rfl rfl rfl (by first | rfl | assumption) (by decide) (by decide) (Nat.le_of_ble_eq_true rfl) ⟨_, rfl, ?_⟩
    refine zz_if_ne (off := 13) (tgt := 25) (q := 15) C (by decide +kernel) (by decide) rfl (fun c12 => ?_) (fun c12 => ?_)
    · refine zz_aload_n (q := 26) (f := 0) (i := 0) C (by decide +kernel) rfl rfl rfl ?_
      refine zz_getR (q := 29) C gf_T_29 (by decide +kernel) rfl (by first | rfl | assumption) hwf.1.2.2.2.1 ?_
      refine zz_iload_n (q := 30) (f := 1) (i := 1) C (by decide +kernel) rfl rfl rfl ?_
      refine zz_callV (q := 33) C (m_O_turnSecond l) cv_T_244 (by decide +kernel) rfl rfl rfl (by first | rfl | assumption) (by decide) (by decide) (Nat.le_of_ble_eq_true rfl) ⟨_, _, rfl, hon, hob, hwf.2.2.2.1, hsw, fun h2 hh => ?_⟩
      have hsm := (or_sm_arr hh).1
      have hps : zz_fR h2 0 4 a = some (t_ps h a) := (hsm.2.2.2.1 0 4 a (by decide)).trans hwf.1.2.2.2.2.1
      refine zz_aload_n (q := 34) (f := 0) (i := 0) C (by decide +kernel) rfl rfl rfl ?_
      refine zz_getR (q := 37) C gf_T_36 (by decide +kernel) rfl (by first | rfl | assumption) hps ?_
      refine zz_callV (q := 40) C (m_Q_standInFrontOfAll l) cv_T_248 (by decide +kernel) rfl rfl rfl (by first | rfl | assumption) (by decide) (by decide) (Nat.le_of_ble_eq_true rfl) ⟨_, rfl, ?_⟩
      exfalso
      exact hp (zz_b_t c12) h2 hh
    · exact zz_throw (q := 21) (i0 := 67) (i1 := 242) (tx := "there is no second order") C hx xx_ownS (by decide +kernel) (zz_in (i := 364) (by decide +kernel) (by decide +kernel)) (zz_in (i := 365) (by decide +kernel) (by decide +kernel)) (zz_in (i := 45) (by decide +kernel) (by decide +kernel)) (by decide +kernel) (by decide +kernel) (by decide +kernel) (Or.inl ⟨by decide +kernel, rfl⟩) (by decide +kernel) (by decide +kernel) hQ (by decide) (by decide) (by decide) (by decide) (by decide) (by decide) (hpX (Classical.byContradiction (fun z => zz_b_f c12 z)))
end
section
/-! SegmentTrees: second, twins, path -/
def B_T_second : zz_TB := fun as h post postX => ∃ a t w, as = [zz_r 0 (some a), zz_i t, zz_i w] ∧ t_ok h a ∧ (t_k h a t = none → postX "java/lang/IllegalArgumentException" (t_h0 h a)) ∧ ∀ k, t_k h a t = some k → (zz_fR h 1 1 k = none → postX "java/lang/IllegalArgumentException" (t_h0 h a)) ∧ ∀ p1, zz_fR h 1 1 k = some p1 → (¬ (0 ≤ w ∧ w < zz_fI h 1 3 k) → postX "java/lang/IllegalArgumentException" (t_h0 h a)) ∧ ((0 ≤ w ∧ w < zz_fI h 1 3 k) → (zz_fI h 0 7 a ≠ 0 → postX "java/lang/IllegalStateException" (t_h0 h a)) ∧ (zz_fI h 0 7 a = 0 → post none (zz_pI (zz_pR (t_h0 h a) 5 3 (t_od h a) (some k)) 5 4 (t_od h a) w)))
set_option maxRecDepth 100000 in
set_option maxHeartbeats 4000000 in
theorem m_T_second (l : Launch) : zz_Met l y_T_second w_T_second { frames := 7, cells := 3, slots := 18, locals := 112 } (fun as h post => B_T_second as h post (fun _ _ => False)) := by
  refine zz_ofZ (by decide) (fun as h post hT => ?_) ?_
  · obtain ⟨a, t, w, rfl, hok, hpX, hp⟩ := hT
    exact ⟨by simp [zz_cat], by simp⟩
  · intro D DA h as post hT p e s m args below meth c Q C hr hlk hnm hQ
    obtain ⟨a, t, w, rfl, hok, hpX, hp⟩ := hT
    refine zz_aload_n (q := 1) (f := 0) (i := 0) C (by decide +kernel) rfl rfl rfl ?_
    refine zz_null (q := 2) C 2 (by decide +kernel) rfl ?_
    refine zz_putR (q := 5) C gf_T_40 (fun h => by cases h) (by decide +kernel) rfl (by first | rfl | assumption) ?_
    show zz_Z p l e _ s m args below meth c Q D DA (zz_A h s.heap.size) h _ _ _ _ (t_h0 h a) 0 0
    have hok0 : t_ok (t_h0 h a) a := hok
    refine zz_aload_n (q := 6) (f := 0) (i := 0) C (by decide +kernel) rfl rfl rfl ?_
    refine zz_iload_n (q := 7) (f := 1) (i := 1) C (by decide +kernel) rfl rfl rfl ?_
    rcases opt_em (t_k h a t) with tc7 | ⟨tk7, tc7⟩
    · exact False.elim (hpX tc7)
    refine zz_callV (q := 10) C (m_T_declaredKind l) cv_T_78 (by decide +kernel) rfl rfl rfl (by first | rfl | assumption) (by decide) (by decide) (Nat.le_of_ble_eq_true rfl) ⟨_, _, rfl, hok0, fun z => absurd (tc7.symm.trans z) (Option.some_ne_none _), fun k9 hk9 => ?_⟩
    obtain rfl := Option.some.inj (tc7.symm.trans hk9)
    refine zz_astore_n (q := 11) (f := 3) (i := 3) C (by decide +kernel) rfl rfl (by decide) rfl ?_
    refine zz_aload_n (q := 12) (f := 3) (i := 3) C (by decide +kernel) rfl rfl rfl ?_
    refine zz_getR (q := 15) C gf_T_103 (by decide +kernel) rfl (by first | rfl | assumption) rfl ?_
    refine zz_ifnonnull (off := 13) (tgt := 28) (q := 18) C (by decide +kernel) (by decide) rfl (fun a15 c15 => ?_) (fun c15 => ?_)
    · refine zz_aload_n (q := 29) (f := 3) (i := 3) C (by decide +kernel) rfl rfl rfl ?_
      refine zz_iload_n (q := 30) (f := 2) (i := 2) C (by decide +kernel) rfl rfl rfl ?_
      refine zz_callV (q := 33) C (m_K_hasWord l) cv_T_108 (by decide +kernel) rfl rfl rfl (by first | rfl | assumption) (by decide) (by decide) (Nat.le_of_ble_eq_true rfl) ⟨_, _, rfl, ?_⟩
      refine zz_if_ne (off := 13) (tgt := 46) (q := 36) C (by decide +kernel) (by decide) rfl (fun c33 => ?_) (fun c33 => ?_)
      · refine zz_aload_n (q := 47) (f := 0) (i := 0) C (by decide +kernel) rfl rfl rfl ?_
        rcases Classical.em (zz_fI h 0 7 a ≠ 0) with tc47 | tc47
        · exact False.elim ((((hp _ tc7).2 _ c15).2 (zz_b_t c33)).1 tc47)
        refine zz_callV (q := 50) C (m_T_refuseAfterInsert l) cv_T_72 (by decide +kernel) rfl rfl rfl (by first | rfl | assumption) (by decide) (by decide) (Nat.le_of_ble_eq_true rfl) ⟨_, rfl, fun z => absurd z tc47, fun hz9 => ?_⟩
        refine zz_aload_n (q := 51) (f := 0) (i := 0) C (by decide +kernel) rfl rfl rfl ?_
        refine zz_getR (q := 54) C gf_T_29 (by decide +kernel) rfl (by first | rfl | assumption) hok.2.2.2.1 ?_
        refine zz_aload_n (q := 55) (f := 3) (i := 3) C (by decide +kernel) rfl rfl rfl ?_
        refine zz_iload_n (q := 56) (f := 2) (i := 2) C (by decide +kernel) rfl rfl rfl ?_
        refine zz_callV (q := 59) C (m_O_nameSecond l) cv_T_114 (by decide +kernel) rfl rfl rfl (by first | rfl | assumption) (by decide) (by decide) (Nat.le_of_ble_eq_true rfl) ⟨_, _, _, rfl, ?_⟩
        refine zz_vret C hr hlk (by decide +kernel) hQ (by decide) (by decide) ?_
        exact (((hp _ tc7).2 _ c15).2 (zz_b_t c33)).2 hz9
      · exact False.elim (((hp _ tc7).2 _ c15).1 (zz_b_f c33))
    · exact False.elim ((hp _ tc7).1 c15)
set_option maxRecDepth 100000 in
set_option maxHeartbeats 4000000 in
theorem x_T_second (l : Launch) (hl : l.stackTraces = false) : zz_MetX l y_T_second w_T_second { frames := 7, cells := 3, slots := 18, locals := 112 } (fun as h postX => B_T_second as h (fun _ _ => False) postX) := by
  refine zz_ofX hl (by decide) (fun as h postX hT => ?_) ?_
  · obtain ⟨a, t, w, rfl, hok, hpX, hp⟩ := hT
    exact ⟨by simp [zz_cat], by simp⟩
  · intro D DA h as postX hT p e s m args below meth c Q C hx hnm hQ
    obtain ⟨a, t, w, rfl, hok, hpX, hp⟩ := hT
    refine zz_aload_n (q := 1) (f := 0) (i := 0) C (by decide +kernel) rfl rfl rfl ?_
    refine zz_null (q := 2) C 2 (by decide +kernel) rfl ?_
    refine zz_putR (q := 5) C gf_T_40 (fun h => by cases h) (by decide +kernel) rfl (by first | rfl | assumption) ?_
    show zz_Z p l e _ s m args below meth c Q D DA (zz_A h s.heap.size) h _ _ _ _ (t_h0 h a) 0 0
    have hok0 : t_ok (t_h0 h a) a := hok
    refine zz_aload_n (q := 6) (f := 0) (i := 0) C (by decide +kernel) rfl rfl rfl ?_
    refine zz_iload_n (q := 7) (f := 1) (i := 1) C (by decide +kernel) rfl rfl rfl ?_
    rcases opt_em (t_k h a t) with tc7 | ⟨tk7, tc7⟩
    · exact zz_callVX C hx (x_T_declaredKind l hl) cv_T_78 (by decide +kernel) rfl rfl (by first | rfl | assumption) (by decide) (by decide) (Nat.le_of_ble_eq_true rfl) hQ (by decide) (by decide) ⟨_, _, rfl, hok0, fun _ => (hpX tc7), fun k9 hk9 => absurd (hk9.symm.trans tc7) (Option.some_ne_none k9)⟩
    refine zz_callV (q := 10) C (m_T_declaredKind l) cv_T_78 (by decide +kernel) rfl rfl rfl (by first | rfl | assumption) (by decide) (by decide) (Nat.le_of_ble_eq_true rfl) ⟨_, _, rfl, hok0, fun z => absurd (tc7.symm.trans z) (Option.some_ne_none _), fun k9 hk9 => ?_⟩
    obtain rfl := Option.some.inj (tc7.symm.trans hk9)
    refine zz_astore_n (q := 11) (f := 3) (i := 3) C (by decide +kernel) rfl rfl (by decide) rfl ?_
    refine zz_aload_n (q := 12) (f := 3) (i := 3) C (by decide +kernel) rfl rfl rfl ?_
    refine zz_getR (q := 15) C gf_T_103 (by decide +kernel) rfl (by first | rfl | assumption) rfl ?_
    refine zz_ifnonnull (off := 13) (tgt := 28) (q := 18) C (by decide +kernel) (by decide) rfl (fun a15 c15 => ?_) (fun c15 => ?_)
    · refine zz_aload_n (q := 29) (f := 3) (i := 3) C (by decide +kernel) rfl rfl rfl ?_
      refine zz_iload_n (q := 30) (f := 2) (i := 2) C (by decide +kernel) rfl rfl rfl ?_
      refine zz_callV (q := 33) C (m_K_hasWord l) cv_T_108 (by decide +kernel) rfl rfl rfl (by first | rfl | assumption) (by decide) (by decide) (Nat.le_of_ble_eq_true rfl) ⟨_, _, rfl, ?_⟩
      refine zz_if_ne (off := 13) (tgt := 46) (q := 36) C (by decide +kernel) (by decide) rfl (fun c33 => ?_) (fun c33 => ?_)
      · refine zz_aload_n (q := 47) (f := 0) (i := 0) C (by decide +kernel) rfl rfl rfl ?_
        rcases Classical.em (zz_fI h 0 7 a ≠ 0) with tc47 | tc47
        · exact zz_callVX C hx (x_T_refuseAfterInsert l hl) cv_T_72 (by decide +kernel) rfl rfl (by first | rfl | assumption) (by decide) (by decide) (Nat.le_of_ble_eq_true rfl) hQ (by decide) (by decide) ⟨_, rfl, fun _ => ((((hp _ tc7).2 _ c15).2 (zz_b_t c33)).1 tc47), fun z => absurd z tc47⟩
        refine zz_callV (q := 50) C (m_T_refuseAfterInsert l) cv_T_72 (by decide +kernel) rfl rfl rfl (by first | rfl | assumption) (by decide) (by decide) (Nat.le_of_ble_eq_true rfl) ⟨_, rfl, fun z => absurd z tc47, fun hz9 => ?_⟩
        refine zz_aload_n (q := 51) (f := 0) (i := 0) C (by decide +kernel) rfl rfl rfl ?_
        refine zz_getR (q := 54) C gf_T_29 (by decide +kernel) rfl (by first | rfl | assumption) hok.2.2.2.1 ?_
        refine zz_aload_n (q := 55) (f := 3) (i := 3) C (by decide +kernel) rfl rfl rfl ?_
        refine zz_iload_n (q := 56) (f := 2) (i := 2) C (by decide +kernel) rfl rfl rfl ?_
        refine zz_callV (q := 59) C (m_O_nameSecond l) cv_T_114 (by decide +kernel) rfl rfl rfl (by first | rfl | assumption) (by decide) (by decide) (Nat.le_of_ble_eq_true rfl) ⟨_, _, _, rfl, ?_⟩
        exfalso
        exact (((hp _ tc7).2 _ c15).2 (zz_b_t c33)).2 hz9
      · exact zz_throw (q := 42) (i0 := 44) (i1 := 112) (tx := "the type has no such word") C hx xx_ownA (by decide +kernel) (zz_in (i := 288) (by decide +kernel) (by decide +kernel)) (zz_in (i := 289) (by decide +kernel) (by decide +kernel)) (zz_in (i := 44) (by decide +kernel) (by decide +kernel)) (by decide +kernel) (by decide +kernel) (by decide +kernel) (Or.inl ⟨by decide +kernel, rfl⟩) (by decide +kernel) (by decide +kernel) hQ (by decide) (by decide) (by decide) (by decide) (by decide) (by decide) (((hp _ tc7).2 _ c15).1 (zz_b_f c33))
    · exact zz_throw (q := 24) (i0 := 44) (i1 := 106) (tx := "it is a root type") C hx xx_ownA (by decide +kernel) (zz_in (i := 288) (by decide +kernel) (by decide +kernel)) (zz_in (i := 289) (by decide +kernel) (by decide +kernel)) (zz_in (i := 44) (by decide +kernel) (by decide +kernel)) (by decide +kernel) (by decide +kernel) (by decide +kernel) (Or.inl ⟨by decide +kernel, rfl⟩) (by decide +kernel) (by decide +kernel) hQ (by decide) (by decide) (by decide) (by decide) (by decide) (by decide) ((hp _ tc7).1 c15)

def B_T_twins : zz_TB := fun as h post postX => ∃ a t u, as = [zz_r 0 (some a), zz_i t, zz_i u] ∧ t_ok h a ∧ (t_k h a t = none → postX "java/lang/IllegalArgumentException" (t_h0 h a)) ∧ ∀ k1, t_k h a t = some k1 → (t_k h a u = none → postX "java/lang/IllegalArgumentException" (t_h0 h a)) ∧ ∀ k2, t_k h a u = some k2 → (k1 = k2 → postX "java/lang/IllegalArgumentException" (t_h0 h a)) ∧ (k1 ≠ k2 → ((zz_fI h 1 3 k1 ≠ zz_fI h 1 3 k2 ∨ zz_fI h 1 4 k1 ≠ zz_fI h 1 4 k2) → postX "java/lang/IllegalArgumentException" (t_h0 h a)) ∧ (zz_fI h 1 3 k1 = zz_fI h 1 3 k2 ∧ zz_fI h 1 4 k1 = zz_fI h 1 4 k2 → (zz_fI h 1 4 k1 = -1 → postX "java/lang/IllegalArgumentException" (t_h0 h a)) ∧ (zz_fI h 1 4 k1 ≠ -1 → ((zz_fR h 1 7 k1 ≠ none ∨ zz_fR h 1 7 k2 ≠ none) → postX "java/lang/IllegalStateException" (t_h0 h a)) ∧ (zz_fR h 1 7 k1 = none ∧ zz_fR h 1 7 k2 = none → (zz_fI h 0 7 a ≠ 0 → postX "java/lang/IllegalStateException" (t_h0 h a)) ∧ (zz_fI h 0 7 a = 0 → post none (zz_pR (zz_pR (t_h0 h a) 1 7 k1 (some k2)) 1 7 k2 (some k1)))))))
set_option maxRecDepth 100000 in
set_option maxHeartbeats 4000000 in
theorem m_T_twins (l : Launch) : zz_Met l y_T_twins w_T_twins { frames := 7, cells := 4, slots := 24, locals := 112 } (fun as h post => B_T_twins as h post (fun _ _ => False)) := by
  refine zz_ofZ (by decide) (fun as h post hT => ?_) ?_
  · obtain ⟨a, t, u, rfl, hok, hpX, hp⟩ := hT
    exact ⟨by simp [zz_cat], by simp⟩
  · intro D DA h as post hT p e s m args below meth c Q C hr hlk hnm hQ
    obtain ⟨a, t, u, rfl, hok, hpX, hp⟩ := hT
    refine zz_aload_n (q := 1) (f := 0) (i := 0) C (by decide +kernel) rfl rfl rfl ?_
    refine zz_null (q := 2) C 2 (by decide +kernel) rfl ?_
    refine zz_putR (q := 5) C gf_T_40 (fun h => by cases h) (by decide +kernel) rfl (by first | rfl | assumption) ?_
    show zz_Z p l e _ s m args below meth c Q D DA (zz_A h s.heap.size) h _ _ _ _ (t_h0 h a) 0 0
    have hok0 : t_ok (t_h0 h a) a := hok
    refine zz_aload_n (q := 6) (f := 0) (i := 0) C (by decide +kernel) rfl rfl rfl ?_
    refine zz_iload_n (q := 7) (f := 1) (i := 1) C (by decide +kernel) rfl rfl rfl ?_
    rcases opt_em (t_k h a t) with tc7 | ⟨tk7, tc7⟩
    · exact False.elim (hpX tc7)
    refine zz_callV (q := 10) C (m_T_declaredKind l) cv_T_78 (by decide +kernel) rfl rfl rfl (by first | rfl | assumption) (by decide) (by decide) (Nat.le_of_ble_eq_true rfl) ⟨_, _, rfl, hok0, fun z => absurd (tc7.symm.trans z) (Option.some_ne_none _), fun k9 hk9 => ?_⟩
    obtain rfl := Option.some.inj (tc7.symm.trans hk9)
    refine zz_astore_n (q := 11) (f := 3) (i := 3) C (by decide +kernel) rfl rfl (by decide) rfl ?_
    refine zz_aload_n (q := 12) (f := 0) (i := 0) C (by decide +kernel) rfl rfl rfl ?_
    refine zz_iload_n (q := 13) (f := 2) (i := 2) C (by decide +kernel) rfl rfl rfl ?_
    rcases opt_em (t_k h a u) with tc13 | ⟨tk13, tc13⟩
    · exact False.elim ((hp _ tc7).1 tc13)
    refine zz_callV (q := 16) C (m_T_declaredKind l) cv_T_78 (by decide +kernel) rfl rfl rfl (by first | rfl | assumption) (by decide) (by decide) (Nat.le_of_ble_eq_true rfl) ⟨_, _, rfl, hok0, fun z => absurd (tc13.symm.trans z) (Option.some_ne_none _), fun k9 hk9 => ?_⟩
    obtain rfl := Option.some.inj (tc13.symm.trans hk9)
    refine zz_astore (q := 18) (i := 4) C (by decide +kernel) rfl (by decide) rfl ?_
    refine zz_aload_n (q := 19) (f := 3) (i := 3) C (by decide +kernel) rfl rfl rfl ?_
    refine zz_aload (q := 21) (i := 4) C (by decide +kernel) rfl rfl ?_
    refine zz_acmp_ne (off := 13) (tgt := 34) (q := 24) C (by decide +kernel) (by decide) rfl (fun c21 => ?_) (fun c21 => ?_)
    · refine zz_aload_n (q := 35) (f := 3) (i := 3) C (by decide +kernel) rfl rfl rfl ?_
      refine zz_getI (q := 38) C gf_T_83 (by decide +kernel) rfl (by first | rfl | assumption) rfl ?_
      refine zz_aload (q := 40) (i := 4) C (by decide +kernel) rfl rfl ?_
      refine zz_getI (q := 43) C gf_T_83 (by decide +kernel) rfl (by first | rfl | assumption) rfl ?_
      refine zz_icmp_ne (off := 15) (tgt := 58) (q := 46) C (by decide +kernel) (by decide) rfl (fun c43 => ?_) (fun c43 => ?_)
      · exact False.elim ((((hp _ tc7).2 _ tc13).2 (fun z => c21 (congrArg some z))).1 (Or.inl c43))
      · refine zz_aload_n (q := 47) (f := 3) (i := 3) C (by decide +kernel) rfl rfl rfl ?_
        refine zz_getI (q := 50) C gf_T_86 (by decide +kernel) rfl (by first | rfl | assumption) rfl ?_
        refine zz_aload (q := 52) (i := 4) C (by decide +kernel) rfl rfl ?_
        refine zz_getI (q := 55) C gf_T_86 (by decide +kernel) rfl (by first | rfl | assumption) rfl ?_
        refine zz_icmp_eq (off := 13) (tgt := 68) (q := 58) C (by decide +kernel) (by decide) rfl (fun c55 => ?_) (fun c55 => ?_)
        · refine zz_aload_n (q := 69) (f := 3) (i := 3) C (by decide +kernel) rfl rfl rfl ?_
          refine zz_callV (q := 72) C (m_K_hasSequence l) cv_T_91 (by decide +kernel) rfl rfl rfl (by first | rfl | assumption) (by decide) (by decide) (Nat.le_of_ble_eq_true rfl) ⟨_, rfl, ?_⟩
          refine zz_if_ne (off := 13) (tgt := 85) (q := 75) C (by decide +kernel) (by decide) rfl (fun c72 => ?_) (fun c72 => ?_)
          · refine zz_aload_n (q := 86) (f := 3) (i := 3) C (by decide +kernel) rfl rfl rfl ?_
            refine zz_getR (q := 89) C gf_T_97 (by decide +kernel) rfl (by first | rfl | assumption) rfl ?_
            refine zz_ifnonnull (off := 11) (tgt := 100) (q := 92) C (by decide +kernel) (by decide) rfl (fun a89 c89 => ?_) (fun c89 => ?_)
            · exact False.elim ((((((hp _ tc7).2 _ tc13).2 (fun z => c21 (congrArg some z))).2 ⟨c43, c55⟩).2 (zz_b_t c72)).1 (Or.inl (fun z => absurd (c89.symm.trans z) (Option.some_ne_none _))))
            · refine zz_aload (q := 94) (i := 4) C (by decide +kernel) rfl rfl ?_
              refine zz_getR (q := 97) C gf_T_97 (by decide +kernel) rfl (by first | rfl | assumption) rfl ?_
              refine zz_ifnull (off := 13) (tgt := 110) (q := 100) C (by decide +kernel) (by decide) rfl (fun c97 => ?_) (fun a97 c97 => ?_)
              · refine zz_aload_n (q := 111) (f := 0) (i := 0) C (by decide +kernel) rfl rfl rfl ?_
                rcases Classical.em (zz_fI h 0 7 a ≠ 0) with tc111 | tc111
                · exact False.elim (((((((hp _ tc7).2 _ tc13).2 (fun z => c21 (congrArg some z))).2 ⟨c43, c55⟩).2 (zz_b_t c72)).2 ⟨c89, c97⟩).1 tc111)
                refine zz_callV (q := 114) C (m_T_refuseAfterInsert l) cv_T_72 (by decide +kernel) rfl rfl rfl (by first | rfl | assumption) (by decide) (by decide) (Nat.le_of_ble_eq_true rfl) ⟨_, rfl, fun z => absurd z tc111, fun hz9 => ?_⟩
                refine zz_aload_n (q := 115) (f := 3) (i := 3) C (by decide +kernel) rfl rfl rfl ?_
                refine zz_aload (q := 117) (i := 4) C (by decide +kernel) rfl rfl ?_
                refine zz_putR (q := 120) C gf_T_97 (fun h => by cases h) (by decide +kernel) rfl (by first | rfl | assumption) ?_
                refine zz_aload (q := 122) (i := 4) C (by decide +kernel) rfl rfl ?_
                refine zz_aload_n (q := 123) (f := 3) (i := 3) C (by decide +kernel) rfl rfl rfl ?_
                refine zz_putR (q := 126) C gf_T_97 (fun h => by cases h) (by decide +kernel) rfl (by first | rfl | assumption) ?_
                refine zz_vret C hr hlk (by decide +kernel) hQ (by decide) (by decide) ?_
                exact (((((((hp _ tc7).2 _ tc13).2 (fun z => c21 (congrArg some z))).2 ⟨c43, c55⟩).2 (zz_b_t c72)).2 ⟨c89, c97⟩).2 hz9)
              · exact False.elim ((((((hp _ tc7).2 _ tc13).2 (fun z => c21 (congrArg some z))).2 ⟨c43, c55⟩).2 (zz_b_t c72)).1 (Or.inr (fun z => absurd (c97.symm.trans z) (Option.some_ne_none _))))
          · exact False.elim (((((hp _ tc7).2 _ tc13).2 (fun z => c21 (congrArg some z))).2 ⟨c43, c55⟩).1 (Classical.byContradiction (fun z => zz_b_f c72 z)))
        · exact False.elim ((((hp _ tc7).2 _ tc13).2 (fun z => c21 (congrArg some z))).1 (Or.inr c55))
    · exact False.elim (((hp _ tc7).2 _ tc13).1 (Option.some.inj c21))
set_option maxRecDepth 100000 in
set_option maxHeartbeats 4000000 in
theorem x_T_twins (l : Launch) (hl : l.stackTraces = false) : zz_MetX l y_T_twins w_T_twins { frames := 7, cells := 4, slots := 24, locals := 112 } (fun as h postX => B_T_twins as h (fun _ _ => False) postX) := by
  refine zz_ofX hl (by decide) (fun as h postX hT => ?_) ?_
  · obtain ⟨a, t, u, rfl, hok, hpX, hp⟩ := hT
    exact ⟨by simp [zz_cat], by simp⟩
  · intro D DA h as postX hT p e s m args below meth c Q C hx hnm hQ
    obtain ⟨a, t, u, rfl, hok, hpX, hp⟩ := hT
    refine zz_aload_n (q := 1) (f := 0) (i := 0) C (by decide +kernel) rfl rfl rfl ?_
    refine zz_null (q := 2) C 2 (by decide +kernel) rfl ?_
    refine zz_putR (q := 5) C gf_T_40 (fun h => by cases h) (by decide +kernel) rfl (by first | rfl | assumption) ?_
    show zz_Z p l e _ s m args below meth c Q D DA (zz_A h s.heap.size) h _ _ _ _ (t_h0 h a) 0 0
    have hok0 : t_ok (t_h0 h a) a := hok
    refine zz_aload_n (q := 6) (f := 0) (i := 0) C (by decide +kernel) rfl rfl rfl ?_
    refine zz_iload_n (q := 7) (f := 1) (i := 1) C (by decide +kernel) rfl rfl rfl ?_
    rcases opt_em (t_k h a t) with tc7 | ⟨tk7, tc7⟩
    · exact zz_callVX C hx (x_T_declaredKind l hl) cv_T_78 (by decide +kernel) rfl rfl (by first | rfl | assumption) (by decide) (by decide) (Nat.le_of_ble_eq_true rfl) hQ (by decide) (by decide) ⟨_, _, rfl, hok0, fun _ => (hpX tc7), fun k9 hk9 => absurd (hk9.symm.trans tc7) (Option.some_ne_none k9)⟩
    refine zz_callV (q := 10) C (m_T_declaredKind l) cv_T_78 (by decide +kernel) rfl rfl rfl (by first | rfl | assumption) (by decide) (by decide) (Nat.le_of_ble_eq_true rfl) ⟨_, _, rfl, hok0, fun z => absurd (tc7.symm.trans z) (Option.some_ne_none _), fun k9 hk9 => ?_⟩
    obtain rfl := Option.some.inj (tc7.symm.trans hk9)
    refine zz_astore_n (q := 11) (f := 3) (i := 3) C (by decide +kernel) rfl rfl (by decide) rfl ?_
    refine zz_aload_n (q := 12) (f := 0) (i := 0) C (by decide +kernel) rfl rfl rfl ?_
    refine zz_iload_n (q := 13) (f := 2) (i := 2) C (by decide +kernel) rfl rfl rfl ?_
    rcases opt_em (t_k h a u) with tc13 | ⟨tk13, tc13⟩
    · exact zz_callVX C hx (x_T_declaredKind l hl) cv_T_78 (by decide +kernel) rfl rfl (by first | rfl | assumption) (by decide) (by decide) (Nat.le_of_ble_eq_true rfl) hQ (by decide) (by decide) ⟨_, _, rfl, hok0, fun _ => ((hp _ tc7).1 tc13), fun k9 hk9 => absurd (hk9.symm.trans tc13) (Option.some_ne_none k9)⟩
    refine zz_callV (q := 16) C (m_T_declaredKind l) cv_T_78 (by decide +kernel) rfl rfl rfl (by first | rfl | assumption) (by decide) (by decide) (Nat.le_of_ble_eq_true rfl) ⟨_, _, rfl, hok0, fun z => absurd (tc13.symm.trans z) (Option.some_ne_none _), fun k9 hk9 => ?_⟩
    obtain rfl := Option.some.inj (tc13.symm.trans hk9)
    refine zz_astore (q := 18) (i := 4) C (by decide +kernel) rfl (by decide) rfl ?_
    refine zz_aload_n (q := 19) (f := 3) (i := 3) C (by decide +kernel) rfl rfl rfl ?_
    refine zz_aload (q := 21) (i := 4) C (by decide +kernel) rfl rfl ?_
    refine zz_acmp_ne (off := 13) (tgt := 34) (q := 24) C (by decide +kernel) (by decide) rfl (fun c21 => ?_) (fun c21 => ?_)
    · refine zz_aload_n (q := 35) (f := 3) (i := 3) C (by decide +kernel) rfl rfl rfl ?_
      refine zz_getI (q := 38) C gf_T_83 (by decide +kernel) rfl (by first | rfl | assumption) rfl ?_
      refine zz_aload (q := 40) (i := 4) C (by decide +kernel) rfl rfl ?_
      refine zz_getI (q := 43) C gf_T_83 (by decide +kernel) rfl (by first | rfl | assumption) rfl ?_
      refine zz_icmp_ne (off := 15) (tgt := 58) (q := 46) C (by decide +kernel) (by decide) rfl (fun c43 => ?_) (fun c43 => ?_)
      · exact zz_throw (q := 64) (i0 := 44) (i1 := 89) (tx := "the types are not alike") C hx xx_ownA (by decide +kernel) (zz_in (i := 288) (by decide +kernel) (by decide +kernel)) (zz_in (i := 289) (by decide +kernel) (by decide +kernel)) (zz_in (i := 44) (by decide +kernel) (by decide +kernel)) (by decide +kernel) (by decide +kernel) (by decide +kernel) (Or.inl ⟨by decide +kernel, rfl⟩) (by decide +kernel) (by decide +kernel) hQ (by decide) (by decide) (by decide) (by decide) (by decide) (by decide) ((((hp _ tc7).2 _ tc13).2 (fun z => c21 (congrArg some z))).1 (Or.inl c43))
      · refine zz_aload_n (q := 47) (f := 3) (i := 3) C (by decide +kernel) rfl rfl rfl ?_
        refine zz_getI (q := 50) C gf_T_86 (by decide +kernel) rfl (by first | rfl | assumption) rfl ?_
        refine zz_aload (q := 52) (i := 4) C (by decide +kernel) rfl rfl ?_
        refine zz_getI (q := 55) C gf_T_86 (by decide +kernel) rfl (by first | rfl | assumption) rfl ?_
        refine zz_icmp_eq (off := 13) (tgt := 68) (q := 58) C (by decide +kernel) (by decide) rfl (fun c55 => ?_) (fun c55 => ?_)
        · refine zz_aload_n (q := 69) (f := 3) (i := 3) C (by decide +kernel) rfl rfl rfl ?_
          refine zz_callV (q := 72) C (m_K_hasSequence l) cv_T_91 (by decide +kernel) rfl rfl rfl (by first | rfl | assumption) (by decide) (by decide) (Nat.le_of_ble_eq_true rfl) ⟨_, rfl, ?_⟩
          refine zz_if_ne (off := 13) (tgt := 85) (q := 75) C (by decide +kernel) (by decide) rfl (fun c72 => ?_) (fun c72 => ?_)
          · refine zz_aload_n (q := 86) (f := 3) (i := 3) C (by decide +kernel) rfl rfl rfl ?_
            refine zz_getR (q := 89) C gf_T_97 (by decide +kernel) rfl (by first | rfl | assumption) rfl ?_
            refine zz_ifnonnull (off := 11) (tgt := 100) (q := 92) C (by decide +kernel) (by decide) rfl (fun a89 c89 => ?_) (fun c89 => ?_)
            · exact zz_throw (q := 106) (i0 := 67) (i1 := 101) (tx := "a type has a twin") C hx xx_ownS (by decide +kernel) (zz_in (i := 364) (by decide +kernel) (by decide +kernel)) (zz_in (i := 365) (by decide +kernel) (by decide +kernel)) (zz_in (i := 45) (by decide +kernel) (by decide +kernel)) (by decide +kernel) (by decide +kernel) (by decide +kernel) (Or.inl ⟨by decide +kernel, rfl⟩) (by decide +kernel) (by decide +kernel) hQ (by decide) (by decide) (by decide) (by decide) (by decide) (by decide) ((((((hp _ tc7).2 _ tc13).2 (fun z => c21 (congrArg some z))).2 ⟨c43, c55⟩).2 (zz_b_t c72)).1 (Or.inl (fun z => absurd (c89.symm.trans z) (Option.some_ne_none _))))
            · refine zz_aload (q := 94) (i := 4) C (by decide +kernel) rfl rfl ?_
              refine zz_getR (q := 97) C gf_T_97 (by decide +kernel) rfl (by first | rfl | assumption) rfl ?_
              refine zz_ifnull (off := 13) (tgt := 110) (q := 100) C (by decide +kernel) (by decide) rfl (fun c97 => ?_) (fun a97 c97 => ?_)
              · refine zz_aload_n (q := 111) (f := 0) (i := 0) C (by decide +kernel) rfl rfl rfl ?_
                rcases Classical.em (zz_fI h 0 7 a ≠ 0) with tc111 | tc111
                · exact zz_callVX C hx (x_T_refuseAfterInsert l hl) cv_T_72 (by decide +kernel) rfl rfl (by first | rfl | assumption) (by decide) (by decide) (Nat.le_of_ble_eq_true rfl) hQ (by decide) (by decide) ⟨_, rfl, fun _ => (((((((hp _ tc7).2 _ tc13).2 (fun z => c21 (congrArg some z))).2 ⟨c43, c55⟩).2 (zz_b_t c72)).2 ⟨c89, c97⟩).1 tc111), fun z => absurd z tc111⟩
                refine zz_callV (q := 114) C (m_T_refuseAfterInsert l) cv_T_72 (by decide +kernel) rfl rfl rfl (by first | rfl | assumption) (by decide) (by decide) (Nat.le_of_ble_eq_true rfl) ⟨_, rfl, fun z => absurd z tc111, fun hz9 => ?_⟩
                refine zz_aload_n (q := 115) (f := 3) (i := 3) C (by decide +kernel) rfl rfl rfl ?_
                refine zz_aload (q := 117) (i := 4) C (by decide +kernel) rfl rfl ?_
                refine zz_putR (q := 120) C gf_T_97 (fun h => by cases h) (by decide +kernel) rfl (by first | rfl | assumption) ?_
                refine zz_aload (q := 122) (i := 4) C (by decide +kernel) rfl rfl ?_
                refine zz_aload_n (q := 123) (f := 3) (i := 3) C (by decide +kernel) rfl rfl rfl ?_
                refine zz_putR (q := 126) C gf_T_97 (fun h => by cases h) (by decide +kernel) rfl (by first | rfl | assumption) ?_
                exfalso
                exact (((((((hp _ tc7).2 _ tc13).2 (fun z => c21 (congrArg some z))).2 ⟨c43, c55⟩).2 (zz_b_t c72)).2 ⟨c89, c97⟩).2 hz9)
              · exact zz_throw (q := 106) (i0 := 67) (i1 := 101) (tx := "a type has a twin") C hx xx_ownS (by decide +kernel) (zz_in (i := 364) (by decide +kernel) (by decide +kernel)) (zz_in (i := 365) (by decide +kernel) (by decide +kernel)) (zz_in (i := 45) (by decide +kernel) (by decide +kernel)) (by decide +kernel) (by decide +kernel) (by decide +kernel) (Or.inl ⟨by decide +kernel, rfl⟩) (by decide +kernel) (by decide +kernel) hQ (by decide) (by decide) (by decide) (by decide) (by decide) (by decide) ((((((hp _ tc7).2 _ tc13).2 (fun z => c21 (congrArg some z))).2 ⟨c43, c55⟩).2 (zz_b_t c72)).1 (Or.inr (fun z => absurd (c97.symm.trans z) (Option.some_ne_none _))))
          · exact zz_throw (q := 81) (i0 := 44) (i1 := 95) (tx := "the types have no sequence") C hx xx_ownA (by decide +kernel) (zz_in (i := 288) (by decide +kernel) (by decide +kernel)) (zz_in (i := 289) (by decide +kernel) (by decide +kernel)) (zz_in (i := 44) (by decide +kernel) (by decide +kernel)) (by decide +kernel) (by decide +kernel) (by decide +kernel) (Or.inl ⟨by decide +kernel, rfl⟩) (by decide +kernel) (by decide +kernel) hQ (by decide) (by decide) (by decide) (by decide) (by decide) (by decide) (((((hp _ tc7).2 _ tc13).2 (fun z => c21 (congrArg some z))).2 ⟨c43, c55⟩).1 (Classical.byContradiction (fun z => zz_b_f c72 z)))
        · exact zz_throw (q := 64) (i0 := 44) (i1 := 89) (tx := "the types are not alike") C hx xx_ownA (by decide +kernel) (zz_in (i := 288) (by decide +kernel) (by decide +kernel)) (zz_in (i := 289) (by decide +kernel) (by decide +kernel)) (zz_in (i := 44) (by decide +kernel) (by decide +kernel)) (by decide +kernel) (by decide +kernel) (by decide +kernel) (Or.inl ⟨by decide +kernel, rfl⟩) (by decide +kernel) (by decide +kernel) hQ (by decide) (by decide) (by decide) (by decide) (by decide) (by decide) ((((hp _ tc7).2 _ tc13).2 (fun z => c21 (congrArg some z))).1 (Or.inr c55))
    · exact zz_throw (q := 30) (i0 := 44) (i1 := 81) (tx := "a type is not its own twin") C hx xx_ownA (by decide +kernel) (zz_in (i := 288) (by decide +kernel) (by decide +kernel)) (zz_in (i := 289) (by decide +kernel) (by decide +kernel)) (zz_in (i := 44) (by decide +kernel) (by decide +kernel)) (by decide +kernel) (by decide +kernel) (by decide +kernel) (Or.inl ⟨by decide +kernel, rfl⟩) (by decide +kernel) (by decide +kernel) hQ (by decide) (by decide) (by decide) (by decide) (by decide) (by decide) (((hp _ tc7).2 _ tc13).1 (Option.some.inj c21))
end
section
/-! SegmentTrees: type -/
def ty_bad (h : zz_H) (a : Nat) (t par ln sq : Int32) : Prop := ¬ (0 ≤ t ∧ t < 8) ∨ (par ≠ -1 ∧ t_k h a par = none) ∨ (∃ k, t_k h a par = some k ∧ ¬ zz_fI h 1 2 k < 4) ∨ ¬ (1 ≤ ln ∧ ln ≤ 4) ∨ (sq ≠ -1 ∧ ¬ (0 ≤ sq ∧ sq < ln))
def ty_lv (h : zz_H) (ab : Option Nat) : Int32 := match ab with
  | none => 1
  | some b => zz_fI h 1 2 b + 1
noncomputable def ty_nw (h : zz_H) (a k : Nat) (t par ln sq u la : Int32) : zz_H := zz_sR (zz_pI (zz_pI (zz_pI (zz_pI (zz_pI (zz_pR (zz_pI (zz_new (t_h0 h a) 1 k) 1 0 k t) 1 1 k (t_k h a par)) 1 2 k (ty_lv h (t_k h a par))) 1 3 k ln) 1 4 k sq) 1 5 k (zz_b (u ≠ 0 ∧ sq ≠ -1))) 1 6 k la) (t_kd h a) t.toNatClampNeg (some k)
theorem ty_good {h : zz_H} {a : Nat} {t par ln sq : Int32} (g1 : 0 ≤ t ∧ t < 8) (g2 : ¬ (par ≠ -1 ∧ t_k h a par = none)) (g3 : ∀ k, t_k h a par = some k → zz_fI h 1 2 k < 4) (g4 : 1 ≤ ln ∧ ln ≤ 4) (g5 : ¬ (sq ≠ -1 ∧ ¬ (0 ≤ sq ∧ sq < ln))) : ¬ ty_bad h a t par ln sq := by
  rintro (z | z | ⟨k, z, y⟩ | z | z)
  · exact z g1
  · exact g2 z
  · exact y (g3 k z)
  · exact z g4
  · exact g5 z
def B_T_type : zz_TB := fun as h post postX => ∃ a t par ln sq u la, as = [zz_r 0 (some a), zz_i t, zz_i par, zz_i ln, zz_i sq, zz_i u, zz_i la] ∧ (u = 0 ∨ u = 1) ∧ (la = 0 ∨ la = 1) ∧ t_ok h a ∧ (ty_bad h a t par ln sq → postX "java/lang/IllegalArgumentException" (t_h0 h a)) ∧ (¬ ty_bad h a t par ln sq → (t_k h a t ≠ none → postX "java/lang/IllegalStateException" (t_h0 h a)) ∧ (t_k h a t = none → (zz_fI h 0 7 a ≠ 0 → postX "java/lang/IllegalStateException" (t_h0 h a)) ∧ (zz_fI h 0 7 a = 0 → ∀ k, zz_tg h k = none → post none (ty_nw h a k t par ln sq u la))))
set_option maxRecDepth 100000 in
set_option maxHeartbeats 4000000 in
theorem m_T_type (l : Launch) : zz_Met l y_T_type w_T_type { frames := 7, cells := 3, slots := 20, locals := 110 } (fun as h post => B_T_type as h post (fun _ _ => False)) := by
  refine zz_ofZ (by decide) (fun as h post hT => ?_) ?_
  · obtain ⟨a, t, par, ln, sq, u, la, rfl, hu, hla, hok, hpX, hp⟩ := hT
    exact ⟨by simp [zz_cat], by simp⟩
  · intro D DA h as post hT p e s m args below meth c Q C hr hlk hnm hQ
    obtain ⟨a, t, par, ln, sq, u, la, rfl, hu, hla, hok, hpX, hp⟩ := hT
    have lp123 : ¬ ty_bad h a t par ln sq → zz_Z p l e { frames := 7, cells := 3, slots := 20, locals := 110 } s m args below meth c Q D DA (zz_A h s.heap.size) h 8 123 [some (zz_r 0 (some a)), some (zz_i t), some (zz_i par), some (zz_i ln), some (zz_i sq), some (zz_i u), some (zz_i la), some (zz_r 1 (t_k h a par))] [] (t_h0 h a) 0 0 := by
      intro hb
      have g1 : 0 ≤ t ∧ t < 8 := Classical.byContradiction (fun z => hb (Or.inl z))
      have h9 := nI_in9 nI_8 (by decide) (Int32.not_lt.mpr g1.1) g1.2
      have ek : t_k h a t = zz_aR h (t_kd h a) t.toNatClampNeg := if_pos g1
      refine zz_know (fun hty _ hTL _ => ?_)
      have hTL9 := hTL 7 _ rfl
      refine zz_aload_n (q := 124) (f := 0) (i := 0) C (by decide +kernel) rfl rfl rfl ?_
      refine zz_getR (q := 127) C gf_T_11 (by decide +kernel) rfl (by first | rfl | assumption) hok.1 ?_
      refine zz_iload_n (q := 128) (f := 1) (i := 1) C (by decide +kernel) rfl rfl rfl ?_
      refine zz_aaload (q := 129) C 3 rfl (by decide) (by decide +kernel) rfl rfl hok.2.2.2.2.2.1 h9.2 h9.1 (by decide) rfl ?_
      refine zz_ifnull (off := 13) (tgt := 142) (q := 132) C (by decide +kernel) (by decide) rfl (fun c129 => ?_) (fun a129 c129 => ?_)
      · refine zz_aload_n (q := 143) (f := 0) (i := 0) C (by decide +kernel) rfl rfl rfl ?_
        rcases Classical.em (zz_fI h 0 7 a ≠ 0) with tc143 | tc143
        · exact False.elim (((hp hb).2 (ek.trans c129)).1 tc143)
        refine zz_callV (q := 146) C (m_T_refuseAfterInsert l) cv_T_72 (by decide +kernel) rfl rfl rfl (by first | rfl | assumption) (by decide) (by decide) (Nat.le_of_ble_eq_true rfl) ⟨_, rfl, fun z => absurd z tc143, fun hz9 => ?_⟩
        refine zz_aload_n (q := 147) (f := 0) (i := 0) C (by decide +kernel) rfl rfl rfl ?_
        refine zz_getR (q := 150) C gf_T_11 (by decide +kernel) rfl (by first | rfl | assumption) hok.1 ?_
        refine zz_iload_n (q := 151) (f := 1) (i := 1) C (by decide +kernel) rfl rfl rfl ?_
        refine zz_newO (q := 154) (ci := 1) C rfl kl_T_9 ni_K nj_K (by decide +kernel) rfl (by decide) (by decide) (fun a151 n151 => ?_)
        refine zz_dup (q := 155) C (by decide +kernel) rfl rfl ?_
        refine zz_iload_n (q := 156) (f := 1) (i := 1) C (by decide +kernel) rfl rfl rfl ?_
        refine zz_aload (q := 158) (i := 7) C (by decide +kernel) rfl rfl ?_
        refine zz_iload_n (q := 159) (f := 3) (i := 3) C (by decide +kernel) rfl rfl rfl ?_
        refine zz_iload (q := 161) (i := 4) C (by decide +kernel) rfl rfl ?_
        refine zz_iload (q := 163) (i := 5) C (by decide +kernel) rfl rfl ?_
        refine zz_iload (q := 165) (i := 6) C (by decide +kernel) rfl rfl ?_
        refine zz_callI (q := 168) C (m_K_init l) ci_T_75 (by decide +kernel) rfl rfl rfl (by first | rfl | assumption) (by decide) (by decide) (Nat.le_of_ble_eq_true rfl) ⟨_, _, _, _, _, _, _, ty_lv h (t_k h a par), rfl, hu, hla, fun z => by rw [z]; rfl, fun b z => ?_, ?_⟩
        · obtain ⟨nb, hnb⟩ := hTL9 b z
          have hne : b ≠ a151 := zz_tg_ne (h := t_h0 h a) hnb n151
          refine ⟨hne, ?_⟩
          rw [z]
          show zz_fI h 1 2 b + 1 = (if 1 = 1 ∧ b = a151 then 0 else zz_fI h 1 2 b) + 1
          rw [if_neg (fun w => hne w.2)]
        refine zz_aastore (q := 169) C (ci := 1) 3 rfl rfl (by decide +kernel) rfl rfl (zz_tg_oldO (h := t_h0 h a) hok.2.2.2.2.2.1 n151) h9.2 h9.1 (by decide) ?_
        refine zz_vret C hr hlk (by decide +kernel) hQ (by decide) (by decide) ?_
        exact ((hp hb).2 (ek.trans c129)).2 hz9 a151 n151
      · exact False.elim ((hp hb).1 (fun z => absurd (c129.symm.trans (ek.symm.trans z)) (Option.some_ne_none _)))
    have lp76 : (0 ≤ t ∧ t < 8) → ¬ (par ≠ -1 ∧ t_k h a par = none) → (∀ k, t_k h a par = some k → zz_fI h 1 2 k < 4) → zz_Z p l e { frames := 7, cells := 3, slots := 20, locals := 110 } s m args below meth c Q D DA (zz_A h s.heap.size) h 8 76 [some (zz_r 0 (some a)), some (zz_i t), some (zz_i par), some (zz_i ln), some (zz_i sq), some (zz_i u), some (zz_i la), some (zz_r 1 (t_k h a par))] [] (t_h0 h a) 0 0 := by
      intro g1 g2 g3
      refine zz_iload_n (q := 77) (f := 3) (i := 3) C (by decide +kernel) rfl rfl rfl ?_
      refine zz_iconst (q := 78) (n := 1) (x := 1) C (by decide +kernel) rfl (by decide +kernel) ?_
      refine zz_icmp_lt (off := 8) (tgt := 86) (q := 81) C (by decide +kernel) (by decide) rfl (fun c78 => ?_) (fun c78 => ?_)
      · exact False.elim (hpX (Or.inr (Or.inr (Or.inr (Or.inl (fun z => absurd c78 (Int32.not_lt.mpr z.1)))))))
      · refine zz_iload_n (q := 82) (f := 3) (i := 3) C (by decide +kernel) rfl rfl rfl ?_
        refine zz_iconst (q := 83) (n := 4) (x := 4) C (by decide +kernel) rfl (by decide +kernel) ?_
        refine zz_icmp_le (off := 13) (tgt := 96) (q := 86) C (by decide +kernel) (by decide) rfl (fun c83 => ?_) (fun c83 => ?_)
        · refine zz_iload (q := 98) (i := 4) C (by decide +kernel) rfl rfl ?_
          refine zz_iconst (q := 99) (n := -1) (x := (-1)) C (by decide +kernel) rfl (by decide +kernel) ?_
          refine zz_icmp_eq (off := 24) (tgt := 123) (q := 102) C (by decide +kernel) (by decide) rfl (fun c99 => ?_) (fun c99 => ?_)
          · -- AT 123
            first
              | exact lp123 (ty_good g1 g2 g3 ⟨Int32.not_lt.mp c78, c83⟩ (fun z => z.1 c99))
              | exact lp123 (ty_good g1 g2 g3 ⟨Int32.not_lt.mp c78, c83⟩ (fun z => z.2 ⟨Int32.not_lt.mp c104, c110⟩))
          · refine zz_iload (q := 104) (i := 4) C (by decide +kernel) rfl rfl ?_
            refine zz_if_lt (off := 9) (tgt := 113) (q := 107) C (by decide +kernel) (by decide) rfl (fun c104 => ?_) (fun c104 => ?_)
            · exact False.elim (hpX (Or.inr (Or.inr (Or.inr (Or.inr ⟨c99, fun z => absurd c104 (Int32.not_lt.mpr z.1)⟩)))))
            · refine zz_iload (q := 109) (i := 4) C (by decide +kernel) rfl rfl ?_
              refine zz_iload_n (q := 110) (f := 3) (i := 3) C (by decide +kernel) rfl rfl rfl ?_
              refine zz_icmp_lt (off := 13) (tgt := 123) (q := 113) C (by decide +kernel) (by decide) rfl (fun c110 => ?_) (fun c110 => ?_)
              · -- AT 123
                first
                  | exact lp123 (ty_good g1 g2 g3 ⟨Int32.not_lt.mp c78, c83⟩ (fun z => z.1 c99))
                  | exact lp123 (ty_good g1 g2 g3 ⟨Int32.not_lt.mp c78, c83⟩ (fun z => z.2 ⟨Int32.not_lt.mp c104, c110⟩))
              · exact False.elim (hpX (Or.inr (Or.inr (Or.inr (Or.inr ⟨c99, fun z => absurd z.2 c110⟩)))))
        · exact False.elim (hpX (Or.inr (Or.inr (Or.inr (Or.inl (fun z => absurd z.2 c83))))))
    refine zz_aload_n (q := 1) (f := 0) (i := 0) C (by decide +kernel) rfl rfl rfl ?_
    refine zz_null (q := 2) C 2 (by decide +kernel) rfl ?_
    refine zz_putR (q := 5) C gf_T_40 (fun h => by cases h) (by decide +kernel) rfl (by first | rfl | assumption) ?_
    show zz_Z p l e _ s m args below meth c Q D DA (zz_A h s.heap.size) h _ _ _ _ (t_h0 h a) 0 0
    have hok0 : t_ok (t_h0 h a) a := hok
    refine zz_iload_n (q := 6) (f := 1) (i := 1) C (by decide +kernel) rfl rfl rfl ?_
    refine zz_if_lt (off := 9) (tgt := 15) (q := 9) C (by decide +kernel) (by decide) rfl (fun c6 => ?_) (fun c6 => ?_)
    · exact False.elim (hpX (Or.inl (fun z => absurd c6 (Int32.not_lt.mpr z.1))))
    · refine zz_iload_n (q := 10) (f := 1) (i := 1) C (by decide +kernel) rfl rfl rfl ?_
      refine zz_bipush (q := 12) (n := 8) (x := 8) C (by decide +kernel) rfl (by decide +kernel) ?_
      refine zz_icmp_lt (off := 13) (tgt := 25) (q := 15) C (by decide +kernel) (by decide) rfl (fun c12 => ?_) (fun c12 => ?_)
      · refine zz_aload_n (q := 26) (f := 0) (i := 0) C (by decide +kernel) rfl rfl rfl ?_
        refine zz_iload_n (q := 27) (f := 2) (i := 2) C (by decide +kernel) rfl rfl rfl ?_
        refine zz_callV (q := 30) C (m_T_kindOf l) cv_T_51 (by decide +kernel) rfl rfl rfl (by first | rfl | assumption) (by decide) (by decide) (Nat.le_of_ble_eq_true rfl) ⟨_, _, rfl, hok0, ?_⟩
        show zz_Z p l e _ s m args below meth c Q D DA (zz_A h s.heap.size) h _ _ _ (zz_r 1 (t_k h a par) :: []) (t_h0 h a) 0 0
        refine zz_astore (q := 32) (i := 7) C (by decide +kernel) rfl (by decide) rfl ?_
        refine zz_iload_n (q := 33) (f := 2) (i := 2) C (by decide +kernel) rfl rfl rfl ?_
        refine zz_iconst (q := 34) (n := -1) (x := (-1)) C (by decide +kernel) rfl (by decide +kernel) ?_
        refine zz_icmp_eq (off := 18) (tgt := 52) (q := 37) C (by decide +kernel) (by decide) rfl (fun c34 => ?_) (fun c34 => ?_)
        · refine zz_aload (q := 54) (i := 7) C (by decide +kernel) rfl rfl ?_
          refine zz_ifnull (off := 22) (tgt := 76) (q := 57) C (by decide +kernel) (by decide) rfl (fun c54 => ?_) (fun a54 c54 => ?_)
          · -- AT 76
            first
              | exact lp76 ⟨Int32.not_lt.mp c6, c12⟩ (fun z => z.1 c34) (fun k9 z => absurd (z.symm.trans c54) (Option.some_ne_none k9))
              | exact lp76 ⟨Int32.not_lt.mp c6, c12⟩ (fun z => z.1 c34) (fun k9 z => (Option.some.inj (c54.symm.trans z)) ▸ c63)
              | exact lp76 ⟨Int32.not_lt.mp c6, c12⟩ (fun z => absurd (c39.symm.trans z.2) (Option.some_ne_none _)) (fun k9 z => absurd (z.symm.trans c54) (Option.some_ne_none k9))
              | exact lp76 ⟨Int32.not_lt.mp c6, c12⟩ (fun z => absurd (c39.symm.trans z.2) (Option.some_ne_none _)) (fun k9 z => (Option.some.inj (c54.symm.trans z)) ▸ c63)
          · refine zz_aload (q := 59) (i := 7) C (by decide +kernel) rfl rfl ?_
            refine zz_getI (q := 62) C gf_T_57 (by decide +kernel) rfl (by first | rfl | assumption) rfl ?_
            refine zz_iconst (q := 63) (n := 4) (x := 4) C (by decide +kernel) rfl (by decide +kernel) ?_
            refine zz_icmp_lt (off := 13) (tgt := 76) (q := 66) C (by decide +kernel) (by decide) rfl (fun c63 => ?_) (fun c63 => ?_)
            · -- AT 76
              first
                | exact lp76 ⟨Int32.not_lt.mp c6, c12⟩ (fun z => z.1 c34) (fun k9 z => absurd (z.symm.trans c54) (Option.some_ne_none k9))
                | exact lp76 ⟨Int32.not_lt.mp c6, c12⟩ (fun z => z.1 c34) (fun k9 z => (Option.some.inj (c54.symm.trans z)) ▸ c63)
                | exact lp76 ⟨Int32.not_lt.mp c6, c12⟩ (fun z => absurd (c39.symm.trans z.2) (Option.some_ne_none _)) (fun k9 z => absurd (z.symm.trans c54) (Option.some_ne_none k9))
                | exact lp76 ⟨Int32.not_lt.mp c6, c12⟩ (fun z => absurd (c39.symm.trans z.2) (Option.some_ne_none _)) (fun k9 z => (Option.some.inj (c54.symm.trans z)) ▸ c63)
            · exact False.elim (hpX (Or.inr (Or.inr (Or.inl ⟨a54, c54, c63⟩))))
        · refine zz_aload (q := 39) (i := 7) C (by decide +kernel) rfl rfl ?_
          refine zz_ifnonnull (off := 13) (tgt := 52) (q := 42) C (by decide +kernel) (by decide) rfl (fun a39 c39 => ?_) (fun c39 => ?_)
          · refine zz_aload (q := 54) (i := 7) C (by decide +kernel) rfl rfl ?_
            refine zz_ifnull (off := 22) (tgt := 76) (q := 57) C (by decide +kernel) (by decide) rfl (fun c54 => ?_) (fun a54 c54 => ?_)
            · -- AT 76
              first
                | exact lp76 ⟨Int32.not_lt.mp c6, c12⟩ (fun z => z.1 c34) (fun k9 z => absurd (z.symm.trans c54) (Option.some_ne_none k9))
                | exact lp76 ⟨Int32.not_lt.mp c6, c12⟩ (fun z => z.1 c34) (fun k9 z => (Option.some.inj (c54.symm.trans z)) ▸ c63)
                | exact lp76 ⟨Int32.not_lt.mp c6, c12⟩ (fun z => absurd (c39.symm.trans z.2) (Option.some_ne_none _)) (fun k9 z => absurd (z.symm.trans c54) (Option.some_ne_none k9))
                | exact lp76 ⟨Int32.not_lt.mp c6, c12⟩ (fun z => absurd (c39.symm.trans z.2) (Option.some_ne_none _)) (fun k9 z => (Option.some.inj (c54.symm.trans z)) ▸ c63)
            · refine zz_aload (q := 59) (i := 7) C (by decide +kernel) rfl rfl ?_
              refine zz_getI (q := 62) C gf_T_57 (by decide +kernel) rfl (by first | rfl | assumption) rfl ?_
              refine zz_iconst (q := 63) (n := 4) (x := 4) C (by decide +kernel) rfl (by decide +kernel) ?_
              refine zz_icmp_lt (off := 13) (tgt := 76) (q := 66) C (by decide +kernel) (by decide) rfl (fun c63 => ?_) (fun c63 => ?_)
              · -- AT 76
                first
                  | exact lp76 ⟨Int32.not_lt.mp c6, c12⟩ (fun z => z.1 c34) (fun k9 z => absurd (z.symm.trans c54) (Option.some_ne_none k9))
                  | exact lp76 ⟨Int32.not_lt.mp c6, c12⟩ (fun z => z.1 c34) (fun k9 z => (Option.some.inj (c54.symm.trans z)) ▸ c63)
                  | exact lp76 ⟨Int32.not_lt.mp c6, c12⟩ (fun z => absurd (c39.symm.trans z.2) (Option.some_ne_none _)) (fun k9 z => absurd (z.symm.trans c54) (Option.some_ne_none k9))
                  | exact lp76 ⟨Int32.not_lt.mp c6, c12⟩ (fun z => absurd (c39.symm.trans z.2) (Option.some_ne_none _)) (fun k9 z => (Option.some.inj (c54.symm.trans z)) ▸ c63)
              · exact False.elim (hpX (Or.inr (Or.inr (Or.inl ⟨a54, c54, c63⟩))))
          · exact False.elim (hpX (Or.inr (Or.inl ⟨c34, c39⟩)))
      · exact False.elim (hpX (Or.inl (fun z => absurd z.2 c12)))
set_option maxRecDepth 100000 in
set_option maxHeartbeats 4000000 in
theorem x_T_type (l : Launch) (hl : l.stackTraces = false) : zz_MetX l y_T_type w_T_type { frames := 7, cells := 3, slots := 20, locals := 110 } (fun as h postX => B_T_type as h (fun _ _ => False) postX) := by
  refine zz_ofX hl (by decide) (fun as h postX hT => ?_) ?_
  · obtain ⟨a, t, par, ln, sq, u, la, rfl, hu, hla, hok, hpX, hp⟩ := hT
    exact ⟨by simp [zz_cat], by simp⟩
  · intro D DA h as postX hT p e s m args below meth c Q C hx hnm hQ
    obtain ⟨a, t, par, ln, sq, u, la, rfl, hu, hla, hok, hpX, hp⟩ := hT
    have lp123 : ¬ ty_bad h a t par ln sq → zz_Z p l e { frames := 7, cells := 3, slots := 20, locals := 110 } s m args below meth c Q D DA (zz_A h s.heap.size) h 8 123 [some (zz_r 0 (some a)), some (zz_i t), some (zz_i par), some (zz_i ln), some (zz_i sq), some (zz_i u), some (zz_i la), some (zz_r 1 (t_k h a par))] [] (t_h0 h a) 0 0 := by
      intro hb
      have g1 : 0 ≤ t ∧ t < 8 := Classical.byContradiction (fun z => hb (Or.inl z))
      have h9 := nI_in9 nI_8 (by decide) (Int32.not_lt.mpr g1.1) g1.2
      have ek : t_k h a t = zz_aR h (t_kd h a) t.toNatClampNeg := if_pos g1
      refine zz_know (fun hty _ hTL _ => ?_)
      have hTL9 := hTL 7 _ rfl
      refine zz_aload_n (q := 124) (f := 0) (i := 0) C (by decide +kernel) rfl rfl rfl ?_
      refine zz_getR (q := 127) C gf_T_11 (by decide +kernel) rfl (by first | rfl | assumption) hok.1 ?_
      refine zz_iload_n (q := 128) (f := 1) (i := 1) C (by decide +kernel) rfl rfl rfl ?_
      refine zz_aaload (q := 129) C 3 rfl (by decide) (by decide +kernel) rfl rfl hok.2.2.2.2.2.1 h9.2 h9.1 (by decide) rfl ?_
      refine zz_ifnull (off := 13) (tgt := 142) (q := 132) C (by decide +kernel) (by decide) rfl (fun c129 => ?_) (fun a129 c129 => ?_)
      · refine zz_aload_n (q := 143) (f := 0) (i := 0) C (by decide +kernel) rfl rfl rfl ?_
        rcases Classical.em (zz_fI h 0 7 a ≠ 0) with tc143 | tc143
        · exact zz_callVX C hx (x_T_refuseAfterInsert l hl) cv_T_72 (by decide +kernel) rfl rfl (by first | rfl | assumption) (by decide) (by decide) (Nat.le_of_ble_eq_true rfl) hQ (by decide) (by decide) ⟨_, rfl, fun _ => (((hp hb).2 (ek.trans c129)).1 tc143), fun z => absurd z tc143⟩
        refine zz_callV (q := 146) C (m_T_refuseAfterInsert l) cv_T_72 (by decide +kernel) rfl rfl rfl (by first | rfl | assumption) (by decide) (by decide) (Nat.le_of_ble_eq_true rfl) ⟨_, rfl, fun z => absurd z tc143, fun hz9 => ?_⟩
        refine zz_aload_n (q := 147) (f := 0) (i := 0) C (by decide +kernel) rfl rfl rfl ?_
        refine zz_getR (q := 150) C gf_T_11 (by decide +kernel) rfl (by first | rfl | assumption) hok.1 ?_
        refine zz_iload_n (q := 151) (f := 1) (i := 1) C (by decide +kernel) rfl rfl rfl ?_
        refine zz_newO (q := 154) (ci := 1) C rfl kl_T_9 ni_K nj_K (by decide +kernel) rfl (by decide) (by decide) (fun a151 n151 => ?_)
        refine zz_dup (q := 155) C (by decide +kernel) rfl rfl ?_
        refine zz_iload_n (q := 156) (f := 1) (i := 1) C (by decide +kernel) rfl rfl rfl ?_
        refine zz_aload (q := 158) (i := 7) C (by decide +kernel) rfl rfl ?_
        refine zz_iload_n (q := 159) (f := 3) (i := 3) C (by decide +kernel) rfl rfl rfl ?_
        refine zz_iload (q := 161) (i := 4) C (by decide +kernel) rfl rfl ?_
        refine zz_iload (q := 163) (i := 5) C (by decide +kernel) rfl rfl ?_
        refine zz_iload (q := 165) (i := 6) C (by decide +kernel) rfl rfl ?_
        refine zz_callI (q := 168) C (m_K_init l) ci_T_75 (by decide +kernel) rfl rfl rfl (by first | rfl | assumption) (by decide) (by decide) (Nat.le_of_ble_eq_true rfl) ⟨_, _, _, _, _, _, _, ty_lv h (t_k h a par), rfl, hu, hla, fun z => by rw [z]; rfl, fun b z => ?_, ?_⟩
        · obtain ⟨nb, hnb⟩ := hTL9 b z
          have hne : b ≠ a151 := zz_tg_ne (h := t_h0 h a) hnb n151
          refine ⟨hne, ?_⟩
          rw [z]
          show zz_fI h 1 2 b + 1 = (if 1 = 1 ∧ b = a151 then 0 else zz_fI h 1 2 b) + 1
          rw [if_neg (fun w => hne w.2)]
        refine zz_aastore (q := 169) C (ci := 1) 3 rfl rfl (by decide +kernel) rfl rfl (zz_tg_oldO (h := t_h0 h a) hok.2.2.2.2.2.1 n151) h9.2 h9.1 (by decide) ?_
        exfalso
        exact ((hp hb).2 (ek.trans c129)).2 hz9 a151 n151
      · exact zz_throw (q := 138) (i0 := 67) (i1 := 69) (tx := "the type is declared") C hx xx_ownS (by decide +kernel) (zz_in (i := 364) (by decide +kernel) (by decide +kernel)) (zz_in (i := 365) (by decide +kernel) (by decide +kernel)) (zz_in (i := 45) (by decide +kernel) (by decide +kernel)) (by decide +kernel) (by decide +kernel) (by decide +kernel) (Or.inl ⟨by decide +kernel, rfl⟩) (by decide +kernel) (by decide +kernel) hQ (by decide) (by decide) (by decide) (by decide) (by decide) (by decide) ((hp hb).1 (fun z => absurd (c129.symm.trans (ek.symm.trans z)) (Option.some_ne_none _)))
    have lp76 : (0 ≤ t ∧ t < 8) → ¬ (par ≠ -1 ∧ t_k h a par = none) → (∀ k, t_k h a par = some k → zz_fI h 1 2 k < 4) → zz_Z p l e { frames := 7, cells := 3, slots := 20, locals := 110 } s m args below meth c Q D DA (zz_A h s.heap.size) h 8 76 [some (zz_r 0 (some a)), some (zz_i t), some (zz_i par), some (zz_i ln), some (zz_i sq), some (zz_i u), some (zz_i la), some (zz_r 1 (t_k h a par))] [] (t_h0 h a) 0 0 := by
      intro g1 g2 g3
      refine zz_iload_n (q := 77) (f := 3) (i := 3) C (by decide +kernel) rfl rfl rfl ?_
      refine zz_iconst (q := 78) (n := 1) (x := 1) C (by decide +kernel) rfl (by decide +kernel) ?_
      refine zz_icmp_lt (off := 8) (tgt := 86) (q := 81) C (by decide +kernel) (by decide) rfl (fun c78 => ?_) (fun c78 => ?_)
      · exact zz_throw (q := 92) (i0 := 44) (i1 := 63) (tx := "the length is out of bounds") C hx xx_ownA (by decide +kernel) (zz_in (i := 288) (by decide +kernel) (by decide +kernel)) (zz_in (i := 289) (by decide +kernel) (by decide +kernel)) (zz_in (i := 44) (by decide +kernel) (by decide +kernel)) (by decide +kernel) (by decide +kernel) (by decide +kernel) (Or.inl ⟨by decide +kernel, rfl⟩) (by decide +kernel) (by decide +kernel) hQ (by decide) (by decide) (by decide) (by decide) (by decide) (by decide) (hpX (Or.inr (Or.inr (Or.inr (Or.inl (fun z => absurd c78 (Int32.not_lt.mpr z.1)))))))
      · refine zz_iload_n (q := 82) (f := 3) (i := 3) C (by decide +kernel) rfl rfl rfl ?_
        refine zz_iconst (q := 83) (n := 4) (x := 4) C (by decide +kernel) rfl (by decide +kernel) ?_
        refine zz_icmp_le (off := 13) (tgt := 96) (q := 86) C (by decide +kernel) (by decide) rfl (fun c83 => ?_) (fun c83 => ?_)
        · refine zz_iload (q := 98) (i := 4) C (by decide +kernel) rfl rfl ?_
          refine zz_iconst (q := 99) (n := -1) (x := (-1)) C (by decide +kernel) rfl (by decide +kernel) ?_
          refine zz_icmp_eq (off := 24) (tgt := 123) (q := 102) C (by decide +kernel) (by decide) rfl (fun c99 => ?_) (fun c99 => ?_)
          · -- AT 123
            first
              | exact lp123 (ty_good g1 g2 g3 ⟨Int32.not_lt.mp c78, c83⟩ (fun z => z.1 c99))
              | exact lp123 (ty_good g1 g2 g3 ⟨Int32.not_lt.mp c78, c83⟩ (fun z => z.2 ⟨Int32.not_lt.mp c104, c110⟩))
          · refine zz_iload (q := 104) (i := 4) C (by decide +kernel) rfl rfl ?_
            refine zz_if_lt (off := 9) (tgt := 113) (q := 107) C (by decide +kernel) (by decide) rfl (fun c104 => ?_) (fun c104 => ?_)
            · exact zz_throw (q := 119) (i0 := 44) (i1 := 65) (tx := "the sequence is out of bounds") C hx xx_ownA (by decide +kernel) (zz_in (i := 288) (by decide +kernel) (by decide +kernel)) (zz_in (i := 289) (by decide +kernel) (by decide +kernel)) (zz_in (i := 44) (by decide +kernel) (by decide +kernel)) (by decide +kernel) (by decide +kernel) (by decide +kernel) (Or.inl ⟨by decide +kernel, rfl⟩) (by decide +kernel) (by decide +kernel) hQ (by decide) (by decide) (by decide) (by decide) (by decide) (by decide) (hpX (Or.inr (Or.inr (Or.inr (Or.inr ⟨c99, fun z => absurd c104 (Int32.not_lt.mpr z.1)⟩)))))
            · refine zz_iload (q := 109) (i := 4) C (by decide +kernel) rfl rfl ?_
              refine zz_iload_n (q := 110) (f := 3) (i := 3) C (by decide +kernel) rfl rfl rfl ?_
              refine zz_icmp_lt (off := 13) (tgt := 123) (q := 113) C (by decide +kernel) (by decide) rfl (fun c110 => ?_) (fun c110 => ?_)
              · -- AT 123
                first
                  | exact lp123 (ty_good g1 g2 g3 ⟨Int32.not_lt.mp c78, c83⟩ (fun z => z.1 c99))
                  | exact lp123 (ty_good g1 g2 g3 ⟨Int32.not_lt.mp c78, c83⟩ (fun z => z.2 ⟨Int32.not_lt.mp c104, c110⟩))
              · exact zz_throw (q := 119) (i0 := 44) (i1 := 65) (tx := "the sequence is out of bounds") C hx xx_ownA (by decide +kernel) (zz_in (i := 288) (by decide +kernel) (by decide +kernel)) (zz_in (i := 289) (by decide +kernel) (by decide +kernel)) (zz_in (i := 44) (by decide +kernel) (by decide +kernel)) (by decide +kernel) (by decide +kernel) (by decide +kernel) (Or.inl ⟨by decide +kernel, rfl⟩) (by decide +kernel) (by decide +kernel) hQ (by decide) (by decide) (by decide) (by decide) (by decide) (by decide) (hpX (Or.inr (Or.inr (Or.inr (Or.inr ⟨c99, fun z => absurd z.2 c110⟩)))))
        · exact zz_throw (q := 92) (i0 := 44) (i1 := 63) (tx := "the length is out of bounds") C hx xx_ownA (by decide +kernel) (zz_in (i := 288) (by decide +kernel) (by decide +kernel)) (zz_in (i := 289) (by decide +kernel) (by decide +kernel)) (zz_in (i := 44) (by decide +kernel) (by decide +kernel)) (by decide +kernel) (by decide +kernel) (by decide +kernel) (Or.inl ⟨by decide +kernel, rfl⟩) (by decide +kernel) (by decide +kernel) hQ (by decide) (by decide) (by decide) (by decide) (by decide) (by decide) (hpX (Or.inr (Or.inr (Or.inr (Or.inl (fun z => absurd z.2 c83))))))
    refine zz_aload_n (q := 1) (f := 0) (i := 0) C (by decide +kernel) rfl rfl rfl ?_
    refine zz_null (q := 2) C 2 (by decide +kernel) rfl ?_
    refine zz_putR (q := 5) C gf_T_40 (fun h => by cases h) (by decide +kernel) rfl (by first | rfl | assumption) ?_
    show zz_Z p l e _ s m args below meth c Q D DA (zz_A h s.heap.size) h _ _ _ _ (t_h0 h a) 0 0
    have hok0 : t_ok (t_h0 h a) a := hok
    refine zz_iload_n (q := 6) (f := 1) (i := 1) C (by decide +kernel) rfl rfl rfl ?_
    refine zz_if_lt (off := 9) (tgt := 15) (q := 9) C (by decide +kernel) (by decide) rfl (fun c6 => ?_) (fun c6 => ?_)
    · exact zz_throw (q := 21) (i0 := 44) (i1 := 46) (tx := "there is no such type") C hx xx_ownA (by decide +kernel) (zz_in (i := 288) (by decide +kernel) (by decide +kernel)) (zz_in (i := 289) (by decide +kernel) (by decide +kernel)) (zz_in (i := 44) (by decide +kernel) (by decide +kernel)) (by decide +kernel) (by decide +kernel) (by decide +kernel) (Or.inl ⟨by decide +kernel, rfl⟩) (by decide +kernel) (by decide +kernel) hQ (by decide) (by decide) (by decide) (by decide) (by decide) (by decide) (hpX (Or.inl (fun z => absurd c6 (Int32.not_lt.mpr z.1))))
    · refine zz_iload_n (q := 10) (f := 1) (i := 1) C (by decide +kernel) rfl rfl rfl ?_
      refine zz_bipush (q := 12) (n := 8) (x := 8) C (by decide +kernel) rfl (by decide +kernel) ?_
      refine zz_icmp_lt (off := 13) (tgt := 25) (q := 15) C (by decide +kernel) (by decide) rfl (fun c12 => ?_) (fun c12 => ?_)
      · refine zz_aload_n (q := 26) (f := 0) (i := 0) C (by decide +kernel) rfl rfl rfl ?_
        refine zz_iload_n (q := 27) (f := 2) (i := 2) C (by decide +kernel) rfl rfl rfl ?_
        refine zz_callV (q := 30) C (m_T_kindOf l) cv_T_51 (by decide +kernel) rfl rfl rfl (by first | rfl | assumption) (by decide) (by decide) (Nat.le_of_ble_eq_true rfl) ⟨_, _, rfl, hok0, ?_⟩
        show zz_Z p l e _ s m args below meth c Q D DA (zz_A h s.heap.size) h _ _ _ (zz_r 1 (t_k h a par) :: []) (t_h0 h a) 0 0
        refine zz_astore (q := 32) (i := 7) C (by decide +kernel) rfl (by decide) rfl ?_
        refine zz_iload_n (q := 33) (f := 2) (i := 2) C (by decide +kernel) rfl rfl rfl ?_
        refine zz_iconst (q := 34) (n := -1) (x := (-1)) C (by decide +kernel) rfl (by decide +kernel) ?_
        refine zz_icmp_eq (off := 18) (tgt := 52) (q := 37) C (by decide +kernel) (by decide) rfl (fun c34 => ?_) (fun c34 => ?_)
        · refine zz_aload (q := 54) (i := 7) C (by decide +kernel) rfl rfl ?_
          refine zz_ifnull (off := 22) (tgt := 76) (q := 57) C (by decide +kernel) (by decide) rfl (fun c54 => ?_) (fun a54 c54 => ?_)
          · -- AT 76
            first
              | exact lp76 ⟨Int32.not_lt.mp c6, c12⟩ (fun z => z.1 c34) (fun k9 z => absurd (z.symm.trans c54) (Option.some_ne_none k9))
              | exact lp76 ⟨Int32.not_lt.mp c6, c12⟩ (fun z => z.1 c34) (fun k9 z => (Option.some.inj (c54.symm.trans z)) ▸ c63)
              | exact lp76 ⟨Int32.not_lt.mp c6, c12⟩ (fun z => absurd (c39.symm.trans z.2) (Option.some_ne_none _)) (fun k9 z => absurd (z.symm.trans c54) (Option.some_ne_none k9))
              | exact lp76 ⟨Int32.not_lt.mp c6, c12⟩ (fun z => absurd (c39.symm.trans z.2) (Option.some_ne_none _)) (fun k9 z => (Option.some.inj (c54.symm.trans z)) ▸ c63)
          · refine zz_aload (q := 59) (i := 7) C (by decide +kernel) rfl rfl ?_
            refine zz_getI (q := 62) C gf_T_57 (by decide +kernel) rfl (by first | rfl | assumption) rfl ?_
            refine zz_iconst (q := 63) (n := 4) (x := 4) C (by decide +kernel) rfl (by decide +kernel) ?_
            refine zz_icmp_lt (off := 13) (tgt := 76) (q := 66) C (by decide +kernel) (by decide) rfl (fun c63 => ?_) (fun c63 => ?_)
            · -- AT 76
              first
                | exact lp76 ⟨Int32.not_lt.mp c6, c12⟩ (fun z => z.1 c34) (fun k9 z => absurd (z.symm.trans c54) (Option.some_ne_none k9))
                | exact lp76 ⟨Int32.not_lt.mp c6, c12⟩ (fun z => z.1 c34) (fun k9 z => (Option.some.inj (c54.symm.trans z)) ▸ c63)
                | exact lp76 ⟨Int32.not_lt.mp c6, c12⟩ (fun z => absurd (c39.symm.trans z.2) (Option.some_ne_none _)) (fun k9 z => absurd (z.symm.trans c54) (Option.some_ne_none k9))
                | exact lp76 ⟨Int32.not_lt.mp c6, c12⟩ (fun z => absurd (c39.symm.trans z.2) (Option.some_ne_none _)) (fun k9 z => (Option.some.inj (c54.symm.trans z)) ▸ c63)
            · exact zz_throw (q := 72) (i0 := 44) (i1 := 61) (tx := "the level is too low") C hx xx_ownA (by decide +kernel) (zz_in (i := 288) (by decide +kernel) (by decide +kernel)) (zz_in (i := 289) (by decide +kernel) (by decide +kernel)) (zz_in (i := 44) (by decide +kernel) (by decide +kernel)) (by decide +kernel) (by decide +kernel) (by decide +kernel) (Or.inl ⟨by decide +kernel, rfl⟩) (by decide +kernel) (by decide +kernel) hQ (by decide) (by decide) (by decide) (by decide) (by decide) (by decide) (hpX (Or.inr (Or.inr (Or.inl ⟨a54, c54, c63⟩))))
        · refine zz_aload (q := 39) (i := 7) C (by decide +kernel) rfl rfl ?_
          refine zz_ifnonnull (off := 13) (tgt := 52) (q := 42) C (by decide +kernel) (by decide) rfl (fun a39 c39 => ?_) (fun c39 => ?_)
          · refine zz_aload (q := 54) (i := 7) C (by decide +kernel) rfl rfl ?_
            refine zz_ifnull (off := 22) (tgt := 76) (q := 57) C (by decide +kernel) (by decide) rfl (fun c54 => ?_) (fun a54 c54 => ?_)
            · -- AT 76
              first
                | exact lp76 ⟨Int32.not_lt.mp c6, c12⟩ (fun z => z.1 c34) (fun k9 z => absurd (z.symm.trans c54) (Option.some_ne_none k9))
                | exact lp76 ⟨Int32.not_lt.mp c6, c12⟩ (fun z => z.1 c34) (fun k9 z => (Option.some.inj (c54.symm.trans z)) ▸ c63)
                | exact lp76 ⟨Int32.not_lt.mp c6, c12⟩ (fun z => absurd (c39.symm.trans z.2) (Option.some_ne_none _)) (fun k9 z => absurd (z.symm.trans c54) (Option.some_ne_none k9))
                | exact lp76 ⟨Int32.not_lt.mp c6, c12⟩ (fun z => absurd (c39.symm.trans z.2) (Option.some_ne_none _)) (fun k9 z => (Option.some.inj (c54.symm.trans z)) ▸ c63)
            · refine zz_aload (q := 59) (i := 7) C (by decide +kernel) rfl rfl ?_
              refine zz_getI (q := 62) C gf_T_57 (by decide +kernel) rfl (by first | rfl | assumption) rfl ?_
              refine zz_iconst (q := 63) (n := 4) (x := 4) C (by decide +kernel) rfl (by decide +kernel) ?_
              refine zz_icmp_lt (off := 13) (tgt := 76) (q := 66) C (by decide +kernel) (by decide) rfl (fun c63 => ?_) (fun c63 => ?_)
              · -- AT 76
                first
                  | exact lp76 ⟨Int32.not_lt.mp c6, c12⟩ (fun z => z.1 c34) (fun k9 z => absurd (z.symm.trans c54) (Option.some_ne_none k9))
                  | exact lp76 ⟨Int32.not_lt.mp c6, c12⟩ (fun z => z.1 c34) (fun k9 z => (Option.some.inj (c54.symm.trans z)) ▸ c63)
                  | exact lp76 ⟨Int32.not_lt.mp c6, c12⟩ (fun z => absurd (c39.symm.trans z.2) (Option.some_ne_none _)) (fun k9 z => absurd (z.symm.trans c54) (Option.some_ne_none k9))
                  | exact lp76 ⟨Int32.not_lt.mp c6, c12⟩ (fun z => absurd (c39.symm.trans z.2) (Option.some_ne_none _)) (fun k9 z => (Option.some.inj (c54.symm.trans z)) ▸ c63)
              · exact zz_throw (q := 72) (i0 := 44) (i1 := 61) (tx := "the level is too low") C hx xx_ownA (by decide +kernel) (zz_in (i := 288) (by decide +kernel) (by decide +kernel)) (zz_in (i := 289) (by decide +kernel) (by decide +kernel)) (zz_in (i := 44) (by decide +kernel) (by decide +kernel)) (by decide +kernel) (by decide +kernel) (by decide +kernel) (Or.inl ⟨by decide +kernel, rfl⟩) (by decide +kernel) (by decide +kernel) hQ (by decide) (by decide) (by decide) (by decide) (by decide) (by decide) (hpX (Or.inr (Or.inr (Or.inl ⟨a54, c54, c63⟩))))
          · exact zz_throw (q := 48) (i0 := 44) (i1 := 55) (tx := "the parent is not declared") C hx xx_ownA (by decide +kernel) (zz_in (i := 288) (by decide +kernel) (by decide +kernel)) (zz_in (i := 289) (by decide +kernel) (by decide +kernel)) (zz_in (i := 44) (by decide +kernel) (by decide +kernel)) (by decide +kernel) (by decide +kernel) (by decide +kernel) (Or.inl ⟨by decide +kernel, rfl⟩) (by decide +kernel) (by decide +kernel) hQ (by decide) (by decide) (by decide) (by decide) (by decide) (by decide) (hpX (Or.inr (Or.inl ⟨c34, c39⟩)))
      · exact zz_throw (q := 21) (i0 := 44) (i1 := 46) (tx := "there is no such type") C hx xx_ownA (by decide +kernel) (zz_in (i := 288) (by decide +kernel) (by decide +kernel)) (zz_in (i := 289) (by decide +kernel) (by decide +kernel)) (zz_in (i := 44) (by decide +kernel) (by decide +kernel)) (by decide +kernel) (by decide +kernel) (by decide +kernel) (Or.inl ⟨by decide +kernel, rfl⟩) (by decide +kernel) (by decide +kernel) hQ (by decide) (by decide) (by decide) (by decide) (by decide) (by decide) (hpX (Or.inl (fun z => absurd z.2 c12)))
end
section
/-! SegmentTrees: path, replace, delete -/
def pa_cn (h : zz_H) (q lv k : Nat) : Prop := zz_fR h 3 0 (pa_l h q lv) ≠ none ∧ zz_fR h 3 0 (pa_l h q lv) ≠ some k
def pa_ad (h : zz_H) (q lv k : Nat) (w op n : Int32) : zz_H := zz_pI (zz_sI (zz_sI (zz_sI (zz_pR h 3 0 (pa_l h q lv) (some k)) (pl_w h (pa_l h q lv)) (pl_c h (pa_l h q lv)) w) (pl_o h (pa_l h q lv)) (pl_c h (pa_l h q lv)) op) (pl_n h (pa_l h q lv)) (pl_c h (pa_l h q lv)) n) 3 1 (pa_l h q lv) (nI (pl_c h (pa_l h q lv) + 1))
def B_T_path : zz_TB := fun as h post postX => ∃ a t w op n, as = [zz_r 0 (some a), zz_i t, zz_i w, zz_i op, zz_i n] ∧ t_ok h a ∧ pa_ok h (t_pa h a) ∧ kd_lv h ∧ (t_k h a t = none → postX "java/lang/IllegalArgumentException" (t_h0 h a)) ∧ ∀ k, t_k h a t = some k → (¬ (0 ≤ op ∧ op ≤ 6) → postX "java/lang/IllegalArgumentException" (t_h0 h a)) ∧ (0 ≤ op ∧ op ≤ 6 → (op = 0 → ∀ lv, lv < 4 → zz_fI h 1 2 k = nI (lv + 1) → (pa_cn h (t_pa h a) lv k → post (some (zz_i 0)) (t_h0 h a)) ∧ (¬ pa_cn h (t_pa h a) lv k → post (some (zz_i 1)) (zz_pR (t_h0 h a) 3 0 (pa_l h (t_pa h a) lv) (some k)))) ∧ (op ≠ 0 → (¬ (0 ≤ w ∧ w < zz_fI h 1 3 k) → postX "java/lang/IllegalArgumentException" (t_h0 h a)) ∧ ((0 ≤ w ∧ w < zz_fI h 1 3 k) → ∀ lv, lv < 4 → zz_fI h 1 2 k = nI (lv + 1) → ((3 ≤ pl_c h (pa_l h (t_pa h a) lv) ∨ pa_cn h (t_pa h a) lv k) → post (some (zz_i 0)) (t_h0 h a)) ∧ (¬ (3 ≤ pl_c h (pa_l h (t_pa h a) lv) ∨ pa_cn h (t_pa h a) lv k) → post (some (zz_i 1)) (pa_ad (t_h0 h a) (t_pa h a) lv k w op n)))))
set_option maxRecDepth 100000 in
set_option maxHeartbeats 4000000 in
theorem m_T_path (l : Launch) : zz_Met l y_T_path w_T_path { frames := 7, cells := 2, slots := 12, locals := 112 } (fun as h post => B_T_path as h post (fun _ _ => False)) := by
  refine zz_ofZ (by decide) (fun as h post hT => ?_) ?_
  · obtain ⟨a, t, w, op, n, rfl, hok, hpa, hlv, hpX, hp⟩ := hT
    exact ⟨by simp [zz_cat], by simp⟩
  · intro D DA h as post hT p e s m args below meth c Q C hr hlk hnm hQ
    obtain ⟨a, t, w, op, n, rfl, hok, hpa, hlv, hpX, hp⟩ := hT
    refine zz_aload_n (q := 1) (f := 0) (i := 0) C (by decide +kernel) rfl rfl rfl ?_
    refine zz_null (q := 2) C 2 (by decide +kernel) rfl ?_
    refine zz_putR (q := 5) C gf_T_40 (fun h => by cases h) (by decide +kernel) rfl (by first | rfl | assumption) ?_
    show zz_Z p l e _ s m args below meth c Q D DA (zz_A h s.heap.size) h _ _ _ _ (t_h0 h a) 0 0
    have hok0 : t_ok (t_h0 h a) a := hok
    have hpa0 : pa_ok (t_h0 h a) (t_pa h a) := hpa
    refine zz_aload_n (q := 6) (f := 0) (i := 0) C (by decide +kernel) rfl rfl rfl ?_
    refine zz_iload_n (q := 7) (f := 1) (i := 1) C (by decide +kernel) rfl rfl rfl ?_
    rcases opt_em (t_k h a t) with tc7 | ⟨tk7, tc7⟩
    · exact False.elim (hpX tc7)
    refine zz_callV (q := 10) C (m_T_declaredKind l) cv_T_78 (by decide +kernel) rfl rfl rfl (by first | rfl | assumption) (by decide) (by decide) (Nat.le_of_ble_eq_true rfl) ⟨_, _, rfl, hok0, fun z => absurd (tc7.symm.trans z) (Option.some_ne_none _), fun k9 hk9 => ?_⟩
    obtain rfl := Option.some.inj (tc7.symm.trans hk9)
    refine zz_astore (q := 12) (i := 5) C (by decide +kernel) rfl (by decide) rfl ?_
    refine zz_know (fun hty _ hTL _ => ?_)
    obtain ⟨nk, htk⟩ := hTL 5 _ rfl _ rfl
    obtain ⟨lv, hlv1, hlv2⟩ := hlv tk7 nk htk
    refine zz_iload_n (q := 13) (f := 3) (i := 3) C (by decide +kernel) rfl rfl rfl ?_
    refine zz_if_lt (off := 9) (tgt := 22) (q := 16) C (by decide +kernel) (by decide) rfl (fun c13 => ?_) (fun c13 => ?_)
    · exact False.elim ((hp _ tc7).1 (fun z => absurd c13 (Int32.not_lt.mpr z.1)))
    · refine zz_iload_n (q := 17) (f := 3) (i := 3) C (by decide +kernel) rfl rfl rfl ?_
      refine zz_bipush (q := 19) (n := 6) (x := 6) C (by decide +kernel) rfl (by decide +kernel) ?_
      refine zz_icmp_le (off := 13) (tgt := 32) (q := 22) C (by decide +kernel) (by decide) rfl (fun c19 => ?_) (fun c19 => ?_)
      · refine zz_iload_n (q := 33) (f := 3) (i := 3) C (by decide +kernel) rfl rfl rfl ?_
        refine zz_if_ne (off := 13) (tgt := 46) (q := 36) C (by decide +kernel) (by decide) rfl (fun c33 => ?_) (fun c33 => ?_)
        · refine zz_aload (q := 48) (i := 5) C (by decide +kernel) rfl rfl ?_
          refine zz_iload_n (q := 49) (f := 2) (i := 2) C (by decide +kernel) rfl rfl rfl ?_
          refine zz_callV (q := 52) C (m_K_hasWord l) cv_T_108 (by decide +kernel) rfl rfl rfl (by first | rfl | assumption) (by decide) (by decide) (Nat.le_of_ble_eq_true rfl) ⟨_, _, rfl, ?_⟩
          refine zz_if_ne (off := 13) (tgt := 65) (q := 55) C (by decide +kernel) (by decide) rfl (fun c52 => ?_) (fun c52 => ?_)
          · refine zz_aload_n (q := 66) (f := 0) (i := 0) C (by decide +kernel) rfl rfl rfl ?_
            refine zz_getR (q := 69) C gf_T_22 (by decide +kernel) rfl (by first | rfl | assumption) hok.2.2.1 ?_
            refine zz_aload (q := 71) (i := 5) C (by decide +kernel) rfl rfl ?_
            refine zz_iload_n (q := 72) (f := 2) (i := 2) C (by decide +kernel) rfl rfl rfl ?_
            refine zz_iload_n (q := 73) (f := 3) (i := 3) C (by decide +kernel) rfl rfl rfl ?_
            refine zz_iload (q := 75) (i := 4) C (by decide +kernel) rfl rfl ?_
            refine zz_callV (q := 78) C (m_P_addCondition l) cv_T_127 (by decide +kernel) rfl rfl rfl (by first | rfl | assumption) (by decide) (by decide) (Nat.le_of_ble_eq_true rfl) ⟨_, _, _, _, _, lv, rfl, hpa0, hlv1, hlv2, fun z => ?_, fun z => ?_⟩
            · refine zz_zret C hr hlk (by decide +kernel) (by decide) hQ (by decide) (by decide) ?_
              exact ((((hp _ tc7).2 ⟨Int32.not_lt.mp c13, c19⟩).2 c33).2 (zz_b_t c52) lv hlv1 hlv2).1 z
            · refine zz_zret C hr hlk (by decide +kernel) (by decide) hQ (by decide) (by decide) ?_
              exact ((((hp _ tc7).2 ⟨Int32.not_lt.mp c13, c19⟩).2 c33).2 (zz_b_t c52) lv hlv1 hlv2).2 z
          · exact False.elim ((((hp _ tc7).2 ⟨Int32.not_lt.mp c13, c19⟩).2 c33).1 (zz_b_f c52))
        · refine zz_aload_n (q := 37) (f := 0) (i := 0) C (by decide +kernel) rfl rfl rfl ?_
          refine zz_getR (q := 40) C gf_T_22 (by decide +kernel) rfl (by first | rfl | assumption) hok.2.2.1 ?_
          refine zz_aload (q := 42) (i := 5) C (by decide +kernel) rfl rfl ?_
          refine zz_callV (q := 45) C (m_P_state l) cv_T_123 (by decide +kernel) rfl rfl rfl (by first | rfl | assumption) (by decide) (by decide) (Nat.le_of_ble_eq_true rfl) ⟨_, _, lv, rfl, hpa0, hlv1, hlv2, fun z => ?_, fun z => ?_⟩
          · refine zz_zret C hr hlk (by decide +kernel) (by decide) hQ (by decide) (by decide) ?_
            exact (((hp _ tc7).2 ⟨Int32.not_lt.mp c13, c19⟩).1 c33 lv hlv1 hlv2).1 z
          · refine zz_zret C hr hlk (by decide +kernel) (by decide) hQ (by decide) (by decide) ?_
            exact (((hp _ tc7).2 ⟨Int32.not_lt.mp c13, c19⟩).1 c33 lv hlv1 hlv2).2 z
      · exact False.elim ((hp _ tc7).1 (fun z => absurd z.2 c19))
set_option maxRecDepth 100000 in
set_option maxHeartbeats 4000000 in
theorem x_T_path (l : Launch) (hl : l.stackTraces = false) : zz_MetX l y_T_path w_T_path { frames := 7, cells := 2, slots := 12, locals := 112 } (fun as h postX => B_T_path as h (fun _ _ => False) postX) := by
  refine zz_ofX hl (by decide) (fun as h postX hT => ?_) ?_
  · obtain ⟨a, t, w, op, n, rfl, hok, hpa, hlv, hpX, hp⟩ := hT
    exact ⟨by simp [zz_cat], by simp⟩
  · intro D DA h as postX hT p e s m args below meth c Q C hx hnm hQ
    obtain ⟨a, t, w, op, n, rfl, hok, hpa, hlv, hpX, hp⟩ := hT
    refine zz_aload_n (q := 1) (f := 0) (i := 0) C (by decide +kernel) rfl rfl rfl ?_
    refine zz_null (q := 2) C 2 (by decide +kernel) rfl ?_
    refine zz_putR (q := 5) C gf_T_40 (fun h => by cases h) (by decide +kernel) rfl (by first | rfl | assumption) ?_
    show zz_Z p l e _ s m args below meth c Q D DA (zz_A h s.heap.size) h _ _ _ _ (t_h0 h a) 0 0
    have hok0 : t_ok (t_h0 h a) a := hok
    have hpa0 : pa_ok (t_h0 h a) (t_pa h a) := hpa
    refine zz_aload_n (q := 6) (f := 0) (i := 0) C (by decide +kernel) rfl rfl rfl ?_
    refine zz_iload_n (q := 7) (f := 1) (i := 1) C (by decide +kernel) rfl rfl rfl ?_
    rcases opt_em (t_k h a t) with tc7 | ⟨tk7, tc7⟩
    · exact zz_callVX C hx (x_T_declaredKind l hl) cv_T_78 (by decide +kernel) rfl rfl (by first | rfl | assumption) (by decide) (by decide) (Nat.le_of_ble_eq_true rfl) hQ (by decide) (by decide) ⟨_, _, rfl, hok0, fun _ => (hpX tc7), fun k9 hk9 => absurd (hk9.symm.trans tc7) (Option.some_ne_none k9)⟩
    refine zz_callV (q := 10) C (m_T_declaredKind l) cv_T_78 (by decide +kernel) rfl rfl rfl (by first | rfl | assumption) (by decide) (by decide) (Nat.le_of_ble_eq_true rfl) ⟨_, _, rfl, hok0, fun z => absurd (tc7.symm.trans z) (Option.some_ne_none _), fun k9 hk9 => ?_⟩
    obtain rfl := Option.some.inj (tc7.symm.trans hk9)
    refine zz_astore (q := 12) (i := 5) C (by decide +kernel) rfl (by decide) rfl ?_
    refine zz_know (fun hty _ hTL _ => ?_)
    obtain ⟨nk, htk⟩ := hTL 5 _ rfl _ rfl
    obtain ⟨lv, hlv1, hlv2⟩ := hlv tk7 nk htk
    refine zz_iload_n (q := 13) (f := 3) (i := 3) C (by decide +kernel) rfl rfl rfl ?_
    refine zz_if_lt (off := 9) (tgt := 22) (q := 16) C (by decide +kernel) (by decide) rfl (fun c13 => ?_) (fun c13 => ?_)
    · exact zz_throw (q := 28) (i0 := 44) (i1 := 121) (tx := "there is no such operation") C hx xx_ownA (by decide +kernel) (zz_in (i := 288) (by decide +kernel) (by decide +kernel)) (zz_in (i := 289) (by decide +kernel) (by decide +kernel)) (zz_in (i := 44) (by decide +kernel) (by decide +kernel)) (by decide +kernel) (by decide +kernel) (by decide +kernel) (Or.inl ⟨by decide +kernel, rfl⟩) (by decide +kernel) (by decide +kernel) hQ (by decide) (by decide) (by decide) (by decide) (by decide) (by decide) ((hp _ tc7).1 (fun z => absurd c13 (Int32.not_lt.mpr z.1)))
    · refine zz_iload_n (q := 17) (f := 3) (i := 3) C (by decide +kernel) rfl rfl rfl ?_
      refine zz_bipush (q := 19) (n := 6) (x := 6) C (by decide +kernel) rfl (by decide +kernel) ?_
      refine zz_icmp_le (off := 13) (tgt := 32) (q := 22) C (by decide +kernel) (by decide) rfl (fun c19 => ?_) (fun c19 => ?_)
      · refine zz_iload_n (q := 33) (f := 3) (i := 3) C (by decide +kernel) rfl rfl rfl ?_
        refine zz_if_ne (off := 13) (tgt := 46) (q := 36) C (by decide +kernel) (by decide) rfl (fun c33 => ?_) (fun c33 => ?_)
        · refine zz_aload (q := 48) (i := 5) C (by decide +kernel) rfl rfl ?_
          refine zz_iload_n (q := 49) (f := 2) (i := 2) C (by decide +kernel) rfl rfl rfl ?_
          refine zz_callV (q := 52) C (m_K_hasWord l) cv_T_108 (by decide +kernel) rfl rfl rfl (by first | rfl | assumption) (by decide) (by decide) (Nat.le_of_ble_eq_true rfl) ⟨_, _, rfl, ?_⟩
          refine zz_if_ne (off := 13) (tgt := 65) (q := 55) C (by decide +kernel) (by decide) rfl (fun c52 => ?_) (fun c52 => ?_)
          · refine zz_aload_n (q := 66) (f := 0) (i := 0) C (by decide +kernel) rfl rfl rfl ?_
            refine zz_getR (q := 69) C gf_T_22 (by decide +kernel) rfl (by first | rfl | assumption) hok.2.2.1 ?_
            refine zz_aload (q := 71) (i := 5) C (by decide +kernel) rfl rfl ?_
            refine zz_iload_n (q := 72) (f := 2) (i := 2) C (by decide +kernel) rfl rfl rfl ?_
            refine zz_iload_n (q := 73) (f := 3) (i := 3) C (by decide +kernel) rfl rfl rfl ?_
            refine zz_iload (q := 75) (i := 4) C (by decide +kernel) rfl rfl ?_
            refine zz_callV (q := 78) C (m_P_addCondition l) cv_T_127 (by decide +kernel) rfl rfl rfl (by first | rfl | assumption) (by decide) (by decide) (Nat.le_of_ble_eq_true rfl) ⟨_, _, _, _, _, lv, rfl, hpa0, hlv1, hlv2, fun z => ?_, fun z => ?_⟩
            · exfalso
              exact ((((hp _ tc7).2 ⟨Int32.not_lt.mp c13, c19⟩).2 c33).2 (zz_b_t c52) lv hlv1 hlv2).1 z
            · exfalso
              exact ((((hp _ tc7).2 ⟨Int32.not_lt.mp c13, c19⟩).2 c33).2 (zz_b_t c52) lv hlv1 hlv2).2 z
          · exact zz_throw (q := 61) (i0 := 44) (i1 := 112) (tx := "the type has no such word") C hx xx_ownA (by decide +kernel) (zz_in (i := 288) (by decide +kernel) (by decide +kernel)) (zz_in (i := 289) (by decide +kernel) (by decide +kernel)) (zz_in (i := 44) (by decide +kernel) (by decide +kernel)) (by decide +kernel) (by decide +kernel) (by decide +kernel) (Or.inl ⟨by decide +kernel, rfl⟩) (by decide +kernel) (by decide +kernel) hQ (by decide) (by decide) (by decide) (by decide) (by decide) (by decide) ((((hp _ tc7).2 ⟨Int32.not_lt.mp c13, c19⟩).2 c33).1 (zz_b_f c52))
        · refine zz_aload_n (q := 37) (f := 0) (i := 0) C (by decide +kernel) rfl rfl rfl ?_
          refine zz_getR (q := 40) C gf_T_22 (by decide +kernel) rfl (by first | rfl | assumption) hok.2.2.1 ?_
          refine zz_aload (q := 42) (i := 5) C (by decide +kernel) rfl rfl ?_
          refine zz_callV (q := 45) C (m_P_state l) cv_T_123 (by decide +kernel) rfl rfl rfl (by first | rfl | assumption) (by decide) (by decide) (Nat.le_of_ble_eq_true rfl) ⟨_, _, lv, rfl, hpa0, hlv1, hlv2, fun z => ?_, fun z => ?_⟩
          · exfalso
            exact (((hp _ tc7).2 ⟨Int32.not_lt.mp c13, c19⟩).1 c33 lv hlv1 hlv2).1 z
          · exfalso
            exact (((hp _ tc7).2 ⟨Int32.not_lt.mp c13, c19⟩).1 c33 lv hlv1 hlv2).2 z
      · exact zz_throw (q := 28) (i0 := 44) (i1 := 121) (tx := "there is no such operation") C hx xx_ownA (by decide +kernel) (zz_in (i := 288) (by decide +kernel) (by decide +kernel)) (zz_in (i := 289) (by decide +kernel) (by decide +kernel)) (zz_in (i := 44) (by decide +kernel) (by decide +kernel)) (by decide +kernel) (by decide +kernel) (by decide +kernel) (Or.inl ⟨by decide +kernel, rfl⟩) (by decide +kernel) (by decide +kernel) hQ (by decide) (by decide) (by decide) (by decide) (by decide) (by decide) ((hp _ tc7).1 (fun z => absurd z.2 c19))

def t_tw (h : zz_H) (a s : Nat) : zz_H := zz_uI h (sg_w h s) (fun j => if j < kd_ln h (sg_k h s) then zz_aI h (t_ww h a) j else zz_aI h (sg_w h s) j)
def rp_h (h : zz_H) (a g : Nat) : zz_H := match zz_fR h 2 4 g with
  | none => t_tw (t_h0 h a) a g
  | some s => t_tw (t_tw (t_h0 h a) a g) a s
theorem rp_h_n {h : zz_H} {a g : Nat} (e : zz_fR h 2 4 g = none) : rp_h h a g = t_tw (t_h0 h a) a g := by rw [rp_h, e]
theorem rp_h_s {h : zz_H} {a g s : Nat} (e : zz_fR h 2 4 g = some s) : rp_h h a g = t_tw (t_tw (t_h0 h a) a g) a s := by rw [rp_h, e]
def rp_no (h : zz_H) (a g : Nat) : Prop := zz_fI h 1 4 (sg_k h g) ≠ -1 ∧ ¬ (zz_fI h 1 4 (sg_k h g) ≠ -1 ∧ zz_aI h (sg_w h g) (kd_sq h (sg_k h g)) = zz_aI h (t_ww h a) (kd_sq h (sg_k h g)))
noncomputable def de_h (h : zz_H) (a g : Nat) : zz_H := @ite zz_H (∃ fx, zz_fR h 0 6 a = some fx ∧ sg_at h (sg_lv h g) fx = some g) (Classical.propDecidable _) (zz_pR (t_h0 h a) 0 6 a none) (t_h0 h a)
theorem de_1 {h : zz_H} {a g : Nat} (e : zz_fR h 0 6 a = none) : de_h h a g = t_h0 h a := if_neg (fun z => Exists.elim z (fun fx z => absurd (z.1.symm.trans e) (Option.some_ne_none fx)))
theorem de_2 {h : zz_H} {a g f : Nat} (e : zz_fR h 0 6 a = some f) (n : ¬ sg_at h (sg_lv h g) f = some g) : de_h h a g = t_h0 h a := if_neg (by
  rintro ⟨fx, z1, z2⟩
  cases (z1.symm.trans e)
  exact n z2)
theorem de_3 {h : zz_H} {a g f : Nat} (e : zz_fR h 0 6 a = some f) (n : sg_at h (sg_lv h g) f = some g) : de_h h a g = zz_pR (t_h0 h a) 0 6 a none := if_pos ⟨_, e, n⟩
def B_T_replace : zz_TB := fun as h post postX => ∃ a, as = [zz_r 0 (some a)] ∧ t_wf h a ∧ or_okB h (t_od h a) ∧ or_sw h (t_od h a) ∧ (zz_fR h 0 5 a = none → postX "java/lang/IllegalStateException" (t_h0 h a)) ∧ ∀ g, zz_fR h 0 5 a = some g → (rp_no h a g → post (some (zz_i 0)) (t_h0 h a)) ∧ (¬ rp_no h a g → ∀ h2, or_arr (rp_h h a g) (t_od h a) h2 → post (some (zz_i 1)) h2)
set_option maxRecDepth 100000 in
set_option maxHeartbeats 4000000 in
theorem m_T_replace (l : Launch) : zz_Met l y_T_replace w_T_replace { frames := 6, cells := 1, slots := 6, locals := 125 } (fun as h post => B_T_replace as h post (fun _ _ => False)) := by
  refine zz_ofZ (by decide) (fun as h post hT => ?_) ?_
  · obtain ⟨a, rfl, hwf, hob, hsw, hpX, hp⟩ := hT
    exact ⟨by simp [zz_cat], by simp⟩
  · intro D DA h as post hT p e s m args below meth c Q C hr hlk hnm hQ
    obtain ⟨a, rfl, hwf, hob, hsw, hpX, hp⟩ := hT
    refine zz_aload_n (q := 1) (f := 0) (i := 0) C (by decide +kernel) rfl rfl rfl ?_
    refine zz_getR (q := 4) C gf_T_40 (by decide +kernel) rfl (by first | rfl | assumption) rfl ?_
    refine zz_astore_n (q := 5) (f := 1) (i := 1) C (by decide +kernel) rfl rfl (by decide) rfl ?_
    refine zz_aload_n (q := 6) (f := 0) (i := 0) C (by decide +kernel) rfl rfl rfl ?_
    refine zz_null (q := 7) C 2 (by decide +kernel) rfl ?_
    refine zz_putR (q := 10) C gf_T_40 (fun h => by cases h) (by decide +kernel) rfl (by first | rfl | assumption) ?_
    show zz_Z p l e _ s m args below meth c Q D DA (zz_A h s.heap.size) h _ _ _ _ (t_h0 h a) 0 0
    have hwf0 : t_wf (t_h0 h a) a := hwf
    refine zz_aload_n (q := 11) (f := 1) (i := 1) C (by decide +kernel) rfl rfl rfl ?_
    refine zz_ifnonnull (off := 13) (tgt := 24) (q := 14) C (by decide +kernel) (by decide) rfl (fun a11 c11 => ?_) (fun c11 => ?_)
    · refine zz_know (fun hty _ hTL _ => ?_)
      obtain ⟨ns, hts⟩ := hTL 1 _ rfl _ c11
      have hos : sg_ok h a11 := hwf.2.2.2.1 _ ns hts
      obtain ⟨nk, htk⟩ := hty.1 _ 2 ns 1 1 hts (by decide) rfl _ hos.1
      have hks : kd_ok h (sg_k h a11) := hwf.2.2.2.2 _ nk htk
      rw [c11]
      refine zz_aload_n (q := 25) (f := 1) (i := 1) C (by decide +kernel) rfl rfl rfl ?_
      refine zz_getR (q := 28) C gf_T_168 (by decide +kernel) rfl (by first | rfl | assumption) hos.1 ?_
      refine zz_callV (q := 31) C (m_K_hasSequence l) cv_T_91 (by decide +kernel) rfl rfl rfl (by first | rfl | assumption) (by decide) (by decide) (Nat.le_of_ble_eq_true rfl) ⟨_, rfl, ?_⟩
      refine zz_if_eq (off := 16) (tgt := 47) (q := 34) C (by decide +kernel) (by decide) rfl (fun c31 => ?_) (fun c31 => ?_)
      · have hgo : ¬ rp_no h a a11 := by
          first
            | exact fun z => zz_b_f c31 z.1
            | exact fun z => z.2 (zz_b_t c42)
        refine zz_aload_n (q := 48) (f := 1) (i := 1) C (by decide +kernel) rfl rfl rfl ?_
        refine zz_aload_n (q := 49) (f := 0) (i := 0) C (by decide +kernel) rfl rfl rfl ?_
        refine zz_getR (q := 52) C gf_T_15 (by decide +kernel) rfl (by first | rfl | assumption) hwf.1.2.1 ?_
        refine zz_callV (q := 55) C (m_S_takeWords l) cv_T_200 (by decide +kernel) rfl rfl rfl (by first | rfl | assumption) (by decide) (by decide) (Nat.le_of_ble_eq_true rfl) ⟨_, _, rfl, hos, hks, hwf.1.2.2.2.2.2.2, ?_⟩
        show zz_Z p l e _ s m args below meth c Q D DA (zz_A h s.heap.size) h _ _ _ _ (t_tw (t_h0 h a) a a11) 0 0
        refine zz_aload_n (q := 56) (f := 1) (i := 1) C (by decide +kernel) rfl rfl rfl ?_
        refine zz_getR (q := 59) C gf_T_220 (by decide +kernel) rfl (by first | rfl | assumption) rfl ?_
        refine zz_ifnull (off := 14) (tgt := 73) (q := 62) C (by decide +kernel) (by decide) rfl (fun c59 => ?_) (fun a59 c59 => ?_)
        · refine zz_aload_n (q := 74) (f := 0) (i := 0) C (by decide +kernel) rfl rfl rfl ?_
          refine zz_getR (q := 77) C gf_T_29 (by decide +kernel) rfl (by first | rfl | assumption) hwf.1.2.2.2.1 ?_
          refine zz_callV (q := 80) C (m_O_arrange l) cv_T_222 (by decide +kernel) rfl rfl rfl (by first | rfl | assumption) (by decide) (by decide) (Nat.le_of_ble_eq_true rfl) ⟨_, rfl, hob, hwf.2.2.2.1, hsw, fun h2 hh => ?_⟩
          refine zz_iconst (q := 81) (n := 1) (x := 1) C (by decide +kernel) rfl (by decide +kernel) ?_
          refine zz_zret C hr hlk (by decide +kernel) (by decide) hQ (by decide) (by decide) ?_
          have hp2 := (hp _ c11).2 hgo h2
          first
            | (rw [rp_h_n (h := h) (a := a) c59] at hp2; exact hp2 hh)
            | (rw [rp_h_s (h := h) (a := a) c59] at hp2; exact hp2 hh)
        · obtain ⟨ns2, hts2⟩ := hty.1 _ 2 ns 4 2 hts (by decide) rfl _ c59
          have hos2 : sg_ok h a59 := hwf.2.2.2.1 _ ns2 hts2
          obtain ⟨nk2, htk2⟩ := hty.1 _ 2 ns2 1 1 hts2 (by decide) rfl _ hos2.1
          have hks2 : kd_ok h (sg_k h a59) := hwf.2.2.2.2 _ nk2 htk2
          refine zz_aload_n (q := 63) (f := 1) (i := 1) C (by decide +kernel) rfl rfl rfl ?_
          refine zz_getR (q := 66) C gf_T_220 (by decide +kernel) rfl (by first | rfl | assumption) c59 ?_
          refine zz_aload_n (q := 67) (f := 0) (i := 0) C (by decide +kernel) rfl rfl rfl ?_
          refine zz_getR (q := 70) C gf_T_15 (by decide +kernel) rfl (by first | rfl | assumption) hwf.1.2.1 ?_
          refine zz_callV (q := 73) C (m_S_takeWords l) cv_T_200 (by decide +kernel) rfl rfl rfl (by first | rfl | assumption) (by decide) (by decide) (Nat.le_of_ble_eq_true rfl) ⟨_, _, rfl, hos2, hks2, hwf.1.2.2.2.2.2.2, ?_⟩
          refine zz_aload_n (q := 74) (f := 0) (i := 0) C (by decide +kernel) rfl rfl rfl ?_
          refine zz_getR (q := 77) C gf_T_29 (by decide +kernel) rfl (by first | rfl | assumption) hwf.1.2.2.2.1 ?_
          refine zz_callV (q := 80) C (m_O_arrange l) cv_T_222 (by decide +kernel) rfl rfl rfl (by first | rfl | assumption) (by decide) (by decide) (Nat.le_of_ble_eq_true rfl) ⟨_, rfl, hob, hwf.2.2.2.1, hsw, fun h2 hh => ?_⟩
          refine zz_iconst (q := 81) (n := 1) (x := 1) C (by decide +kernel) rfl (by decide +kernel) ?_
          refine zz_zret C hr hlk (by decide +kernel) (by decide) hQ (by decide) (by decide) ?_
          have hp2 := (hp _ c11).2 hgo h2
          first
            | (rw [rp_h_n (h := h) (a := a) c59] at hp2; exact hp2 hh)
            | (rw [rp_h_s (h := h) (a := a) c59] at hp2; exact hp2 hh)
      · refine zz_aload_n (q := 35) (f := 1) (i := 1) C (by decide +kernel) rfl rfl rfl ?_
        refine zz_aload_n (q := 36) (f := 0) (i := 0) C (by decide +kernel) rfl rfl rfl ?_
        refine zz_getR (q := 39) C gf_T_15 (by decide +kernel) rfl (by first | rfl | assumption) hwf.1.2.1 ?_
        refine zz_callV (q := 42) C (m_S_hasSequenceOf l) cv_T_216 (by decide +kernel) rfl rfl rfl (by first | rfl | assumption) (by decide) (by decide) (Nat.le_of_ble_eq_true rfl) ⟨_, _, rfl, hos, hks, hwf.1.2.2.2.2.2.2, ?_⟩
        refine zz_if_ne (off := 5) (tgt := 47) (q := 45) C (by decide +kernel) (by decide) rfl (fun c42 => ?_) (fun c42 => ?_)
        · have hgo : ¬ rp_no h a a11 := by
            first
              | exact fun z => zz_b_f c31 z.1
              | exact fun z => z.2 (zz_b_t c42)
          refine zz_aload_n (q := 48) (f := 1) (i := 1) C (by decide +kernel) rfl rfl rfl ?_
          refine zz_aload_n (q := 49) (f := 0) (i := 0) C (by decide +kernel) rfl rfl rfl ?_
          refine zz_getR (q := 52) C gf_T_15 (by decide +kernel) rfl (by first | rfl | assumption) hwf.1.2.1 ?_
          refine zz_callV (q := 55) C (m_S_takeWords l) cv_T_200 (by decide +kernel) rfl rfl rfl (by first | rfl | assumption) (by decide) (by decide) (Nat.le_of_ble_eq_true rfl) ⟨_, _, rfl, hos, hks, hwf.1.2.2.2.2.2.2, ?_⟩
          show zz_Z p l e _ s m args below meth c Q D DA (zz_A h s.heap.size) h _ _ _ _ (t_tw (t_h0 h a) a a11) 0 0
          refine zz_aload_n (q := 56) (f := 1) (i := 1) C (by decide +kernel) rfl rfl rfl ?_
          refine zz_getR (q := 59) C gf_T_220 (by decide +kernel) rfl (by first | rfl | assumption) rfl ?_
          refine zz_ifnull (off := 14) (tgt := 73) (q := 62) C (by decide +kernel) (by decide) rfl (fun c59 => ?_) (fun a59 c59 => ?_)
          · refine zz_aload_n (q := 74) (f := 0) (i := 0) C (by decide +kernel) rfl rfl rfl ?_
            refine zz_getR (q := 77) C gf_T_29 (by decide +kernel) rfl (by first | rfl | assumption) hwf.1.2.2.2.1 ?_
            refine zz_callV (q := 80) C (m_O_arrange l) cv_T_222 (by decide +kernel) rfl rfl rfl (by first | rfl | assumption) (by decide) (by decide) (Nat.le_of_ble_eq_true rfl) ⟨_, rfl, hob, hwf.2.2.2.1, hsw, fun h2 hh => ?_⟩
            refine zz_iconst (q := 81) (n := 1) (x := 1) C (by decide +kernel) rfl (by decide +kernel) ?_
            refine zz_zret C hr hlk (by decide +kernel) (by decide) hQ (by decide) (by decide) ?_
            have hp2 := (hp _ c11).2 hgo h2
            first
              | (rw [rp_h_n (h := h) (a := a) c59] at hp2; exact hp2 hh)
              | (rw [rp_h_s (h := h) (a := a) c59] at hp2; exact hp2 hh)
          · obtain ⟨ns2, hts2⟩ := hty.1 _ 2 ns 4 2 hts (by decide) rfl _ c59
            have hos2 : sg_ok h a59 := hwf.2.2.2.1 _ ns2 hts2
            obtain ⟨nk2, htk2⟩ := hty.1 _ 2 ns2 1 1 hts2 (by decide) rfl _ hos2.1
            have hks2 : kd_ok h (sg_k h a59) := hwf.2.2.2.2 _ nk2 htk2
            refine zz_aload_n (q := 63) (f := 1) (i := 1) C (by decide +kernel) rfl rfl rfl ?_
            refine zz_getR (q := 66) C gf_T_220 (by decide +kernel) rfl (by first | rfl | assumption) c59 ?_
            refine zz_aload_n (q := 67) (f := 0) (i := 0) C (by decide +kernel) rfl rfl rfl ?_
            refine zz_getR (q := 70) C gf_T_15 (by decide +kernel) rfl (by first | rfl | assumption) hwf.1.2.1 ?_
            refine zz_callV (q := 73) C (m_S_takeWords l) cv_T_200 (by decide +kernel) rfl rfl rfl (by first | rfl | assumption) (by decide) (by decide) (Nat.le_of_ble_eq_true rfl) ⟨_, _, rfl, hos2, hks2, hwf.1.2.2.2.2.2.2, ?_⟩
            refine zz_aload_n (q := 74) (f := 0) (i := 0) C (by decide +kernel) rfl rfl rfl ?_
            refine zz_getR (q := 77) C gf_T_29 (by decide +kernel) rfl (by first | rfl | assumption) hwf.1.2.2.2.1 ?_
            refine zz_callV (q := 80) C (m_O_arrange l) cv_T_222 (by decide +kernel) rfl rfl rfl (by first | rfl | assumption) (by decide) (by decide) (Nat.le_of_ble_eq_true rfl) ⟨_, rfl, hob, hwf.2.2.2.1, hsw, fun h2 hh => ?_⟩
            refine zz_iconst (q := 81) (n := 1) (x := 1) C (by decide +kernel) rfl (by decide +kernel) ?_
            refine zz_zret C hr hlk (by decide +kernel) (by decide) hQ (by decide) (by decide) ?_
            have hp2 := (hp _ c11).2 hgo h2
            first
              | (rw [rp_h_n (h := h) (a := a) c59] at hp2; exact hp2 hh)
              | (rw [rp_h_s (h := h) (a := a) c59] at hp2; exact hp2 hh)
        · refine zz_iconst (q := 46) (n := 0) (x := 0) C (by decide +kernel) rfl (by decide +kernel) ?_
          refine zz_zret C hr hlk (by decide +kernel) (by decide) hQ (by decide) (by decide) ?_
          exact (hp _ c11).1 ⟨zz_b_t c31, zz_b_f c42⟩
    · exact False.elim (hpX c11)
set_option maxRecDepth 100000 in
set_option maxHeartbeats 4000000 in
theorem x_T_replace (l : Launch) (hl : l.stackTraces = false) : zz_MetX l y_T_replace w_T_replace { frames := 6, cells := 1, slots := 6, locals := 125 } (fun as h postX => B_T_replace as h (fun _ _ => False) postX) := by
  refine zz_ofX hl (by decide) (fun as h postX hT => ?_) ?_
  · obtain ⟨a, rfl, hwf, hob, hsw, hpX, hp⟩ := hT
    exact ⟨by simp [zz_cat], by simp⟩
  · intro D DA h as postX hT p e s m args below meth c Q C hx hnm hQ
    obtain ⟨a, rfl, hwf, hob, hsw, hpX, hp⟩ := hT
    refine zz_aload_n (q := 1) (f := 0) (i := 0) C (by decide +kernel) rfl rfl rfl ?_
    refine zz_getR (q := 4) C gf_T_40 (by decide +kernel) rfl (by first | rfl | assumption) rfl ?_
    refine zz_astore_n (q := 5) (f := 1) (i := 1) C (by decide +kernel) rfl rfl (by decide) rfl ?_
    refine zz_aload_n (q := 6) (f := 0) (i := 0) C (by decide +kernel) rfl rfl rfl ?_
    refine zz_null (q := 7) C 2 (by decide +kernel) rfl ?_
    refine zz_putR (q := 10) C gf_T_40 (fun h => by cases h) (by decide +kernel) rfl (by first | rfl | assumption) ?_
    show zz_Z p l e _ s m args below meth c Q D DA (zz_A h s.heap.size) h _ _ _ _ (t_h0 h a) 0 0
    have hwf0 : t_wf (t_h0 h a) a := hwf
    refine zz_aload_n (q := 11) (f := 1) (i := 1) C (by decide +kernel) rfl rfl rfl ?_
    refine zz_ifnonnull (off := 13) (tgt := 24) (q := 14) C (by decide +kernel) (by decide) rfl (fun a11 c11 => ?_) (fun c11 => ?_)
    · refine zz_know (fun hty _ hTL _ => ?_)
      obtain ⟨ns, hts⟩ := hTL 1 _ rfl _ c11
      have hos : sg_ok h a11 := hwf.2.2.2.1 _ ns hts
      obtain ⟨nk, htk⟩ := hty.1 _ 2 ns 1 1 hts (by decide) rfl _ hos.1
      have hks : kd_ok h (sg_k h a11) := hwf.2.2.2.2 _ nk htk
      rw [c11]
      refine zz_aload_n (q := 25) (f := 1) (i := 1) C (by decide +kernel) rfl rfl rfl ?_
      refine zz_getR (q := 28) C gf_T_168 (by decide +kernel) rfl (by first | rfl | assumption) hos.1 ?_
      refine zz_callV (q := 31) C (m_K_hasSequence l) cv_T_91 (by decide +kernel) rfl rfl rfl (by first | rfl | assumption) (by decide) (by decide) (Nat.le_of_ble_eq_true rfl) ⟨_, rfl, ?_⟩
      refine zz_if_eq (off := 16) (tgt := 47) (q := 34) C (by decide +kernel) (by decide) rfl (fun c31 => ?_) (fun c31 => ?_)
      · have hgo : ¬ rp_no h a a11 := by
          first
            | exact fun z => zz_b_f c31 z.1
            | exact fun z => z.2 (zz_b_t c42)
        refine zz_aload_n (q := 48) (f := 1) (i := 1) C (by decide +kernel) rfl rfl rfl ?_
        refine zz_aload_n (q := 49) (f := 0) (i := 0) C (by decide +kernel) rfl rfl rfl ?_
        refine zz_getR (q := 52) C gf_T_15 (by decide +kernel) rfl (by first | rfl | assumption) hwf.1.2.1 ?_
        refine zz_callV (q := 55) C (m_S_takeWords l) cv_T_200 (by decide +kernel) rfl rfl rfl (by first | rfl | assumption) (by decide) (by decide) (Nat.le_of_ble_eq_true rfl) ⟨_, _, rfl, hos, hks, hwf.1.2.2.2.2.2.2, ?_⟩
        show zz_Z p l e _ s m args below meth c Q D DA (zz_A h s.heap.size) h _ _ _ _ (t_tw (t_h0 h a) a a11) 0 0
        refine zz_aload_n (q := 56) (f := 1) (i := 1) C (by decide +kernel) rfl rfl rfl ?_
        refine zz_getR (q := 59) C gf_T_220 (by decide +kernel) rfl (by first | rfl | assumption) rfl ?_
        refine zz_ifnull (off := 14) (tgt := 73) (q := 62) C (by decide +kernel) (by decide) rfl (fun c59 => ?_) (fun a59 c59 => ?_)
        · refine zz_aload_n (q := 74) (f := 0) (i := 0) C (by decide +kernel) rfl rfl rfl ?_
          refine zz_getR (q := 77) C gf_T_29 (by decide +kernel) rfl (by first | rfl | assumption) hwf.1.2.2.2.1 ?_
          refine zz_callV (q := 80) C (m_O_arrange l) cv_T_222 (by decide +kernel) rfl rfl rfl (by first | rfl | assumption) (by decide) (by decide) (Nat.le_of_ble_eq_true rfl) ⟨_, rfl, hob, hwf.2.2.2.1, hsw, fun h2 hh => ?_⟩
          refine zz_iconst (q := 81) (n := 1) (x := 1) C (by decide +kernel) rfl (by decide +kernel) ?_
          exfalso
          have hp2 := (hp _ c11).2 hgo h2
          first
            | (rw [rp_h_n (h := h) (a := a) c59] at hp2; exact hp2 hh)
            | (rw [rp_h_s (h := h) (a := a) c59] at hp2; exact hp2 hh)
        · obtain ⟨ns2, hts2⟩ := hty.1 _ 2 ns 4 2 hts (by decide) rfl _ c59
          have hos2 : sg_ok h a59 := hwf.2.2.2.1 _ ns2 hts2
          obtain ⟨nk2, htk2⟩ := hty.1 _ 2 ns2 1 1 hts2 (by decide) rfl _ hos2.1
          have hks2 : kd_ok h (sg_k h a59) := hwf.2.2.2.2 _ nk2 htk2
          refine zz_aload_n (q := 63) (f := 1) (i := 1) C (by decide +kernel) rfl rfl rfl ?_
          refine zz_getR (q := 66) C gf_T_220 (by decide +kernel) rfl (by first | rfl | assumption) c59 ?_
          refine zz_aload_n (q := 67) (f := 0) (i := 0) C (by decide +kernel) rfl rfl rfl ?_
          refine zz_getR (q := 70) C gf_T_15 (by decide +kernel) rfl (by first | rfl | assumption) hwf.1.2.1 ?_
          refine zz_callV (q := 73) C (m_S_takeWords l) cv_T_200 (by decide +kernel) rfl rfl rfl (by first | rfl | assumption) (by decide) (by decide) (Nat.le_of_ble_eq_true rfl) ⟨_, _, rfl, hos2, hks2, hwf.1.2.2.2.2.2.2, ?_⟩
          refine zz_aload_n (q := 74) (f := 0) (i := 0) C (by decide +kernel) rfl rfl rfl ?_
          refine zz_getR (q := 77) C gf_T_29 (by decide +kernel) rfl (by first | rfl | assumption) hwf.1.2.2.2.1 ?_
          refine zz_callV (q := 80) C (m_O_arrange l) cv_T_222 (by decide +kernel) rfl rfl rfl (by first | rfl | assumption) (by decide) (by decide) (Nat.le_of_ble_eq_true rfl) ⟨_, rfl, hob, hwf.2.2.2.1, hsw, fun h2 hh => ?_⟩
          refine zz_iconst (q := 81) (n := 1) (x := 1) C (by decide +kernel) rfl (by decide +kernel) ?_
          exfalso
          have hp2 := (hp _ c11).2 hgo h2
          first
            | (rw [rp_h_n (h := h) (a := a) c59] at hp2; exact hp2 hh)
            | (rw [rp_h_s (h := h) (a := a) c59] at hp2; exact hp2 hh)
      · refine zz_aload_n (q := 35) (f := 1) (i := 1) C (by decide +kernel) rfl rfl rfl ?_
        refine zz_aload_n (q := 36) (f := 0) (i := 0) C (by decide +kernel) rfl rfl rfl ?_
        refine zz_getR (q := 39) C gf_T_15 (by decide +kernel) rfl (by first | rfl | assumption) hwf.1.2.1 ?_
        refine zz_callV (q := 42) C (m_S_hasSequenceOf l) cv_T_216 (by decide +kernel) rfl rfl rfl (by first | rfl | assumption) (by decide) (by decide) (Nat.le_of_ble_eq_true rfl) ⟨_, _, rfl, hos, hks, hwf.1.2.2.2.2.2.2, ?_⟩
        refine zz_if_ne (off := 5) (tgt := 47) (q := 45) C (by decide +kernel) (by decide) rfl (fun c42 => ?_) (fun c42 => ?_)
        · have hgo : ¬ rp_no h a a11 := by
            first
              | exact fun z => zz_b_f c31 z.1
              | exact fun z => z.2 (zz_b_t c42)
          refine zz_aload_n (q := 48) (f := 1) (i := 1) C (by decide +kernel) rfl rfl rfl ?_
          refine zz_aload_n (q := 49) (f := 0) (i := 0) C (by decide +kernel) rfl rfl rfl ?_
          refine zz_getR (q := 52) C gf_T_15 (by decide +kernel) rfl (by first | rfl | assumption) hwf.1.2.1 ?_
          refine zz_callV (q := 55) C (m_S_takeWords l) cv_T_200 (by decide +kernel) rfl rfl rfl (by first | rfl | assumption) (by decide) (by decide) (Nat.le_of_ble_eq_true rfl) ⟨_, _, rfl, hos, hks, hwf.1.2.2.2.2.2.2, ?_⟩
          show zz_Z p l e _ s m args below meth c Q D DA (zz_A h s.heap.size) h _ _ _ _ (t_tw (t_h0 h a) a a11) 0 0
          refine zz_aload_n (q := 56) (f := 1) (i := 1) C (by decide +kernel) rfl rfl rfl ?_
          refine zz_getR (q := 59) C gf_T_220 (by decide +kernel) rfl (by first | rfl | assumption) rfl ?_
          refine zz_ifnull (off := 14) (tgt := 73) (q := 62) C (by decide +kernel) (by decide) rfl (fun c59 => ?_) (fun a59 c59 => ?_)
          · refine zz_aload_n (q := 74) (f := 0) (i := 0) C (by decide +kernel) rfl rfl rfl ?_
            refine zz_getR (q := 77) C gf_T_29 (by decide +kernel) rfl (by first | rfl | assumption) hwf.1.2.2.2.1 ?_
            refine zz_callV (q := 80) C (m_O_arrange l) cv_T_222 (by decide +kernel) rfl rfl rfl (by first | rfl | assumption) (by decide) (by decide) (Nat.le_of_ble_eq_true rfl) ⟨_, rfl, hob, hwf.2.2.2.1, hsw, fun h2 hh => ?_⟩
            refine zz_iconst (q := 81) (n := 1) (x := 1) C (by decide +kernel) rfl (by decide +kernel) ?_
            exfalso
            have hp2 := (hp _ c11).2 hgo h2
            first
              | (rw [rp_h_n (h := h) (a := a) c59] at hp2; exact hp2 hh)
              | (rw [rp_h_s (h := h) (a := a) c59] at hp2; exact hp2 hh)
          · obtain ⟨ns2, hts2⟩ := hty.1 _ 2 ns 4 2 hts (by decide) rfl _ c59
            have hos2 : sg_ok h a59 := hwf.2.2.2.1 _ ns2 hts2
            obtain ⟨nk2, htk2⟩ := hty.1 _ 2 ns2 1 1 hts2 (by decide) rfl _ hos2.1
            have hks2 : kd_ok h (sg_k h a59) := hwf.2.2.2.2 _ nk2 htk2
            refine zz_aload_n (q := 63) (f := 1) (i := 1) C (by decide +kernel) rfl rfl rfl ?_
            refine zz_getR (q := 66) C gf_T_220 (by decide +kernel) rfl (by first | rfl | assumption) c59 ?_
            refine zz_aload_n (q := 67) (f := 0) (i := 0) C (by decide +kernel) rfl rfl rfl ?_
            refine zz_getR (q := 70) C gf_T_15 (by decide +kernel) rfl (by first | rfl | assumption) hwf.1.2.1 ?_
            refine zz_callV (q := 73) C (m_S_takeWords l) cv_T_200 (by decide +kernel) rfl rfl rfl (by first | rfl | assumption) (by decide) (by decide) (Nat.le_of_ble_eq_true rfl) ⟨_, _, rfl, hos2, hks2, hwf.1.2.2.2.2.2.2, ?_⟩
            refine zz_aload_n (q := 74) (f := 0) (i := 0) C (by decide +kernel) rfl rfl rfl ?_
            refine zz_getR (q := 77) C gf_T_29 (by decide +kernel) rfl (by first | rfl | assumption) hwf.1.2.2.2.1 ?_
            refine zz_callV (q := 80) C (m_O_arrange l) cv_T_222 (by decide +kernel) rfl rfl rfl (by first | rfl | assumption) (by decide) (by decide) (Nat.le_of_ble_eq_true rfl) ⟨_, rfl, hob, hwf.2.2.2.1, hsw, fun h2 hh => ?_⟩
            refine zz_iconst (q := 81) (n := 1) (x := 1) C (by decide +kernel) rfl (by decide +kernel) ?_
            exfalso
            have hp2 := (hp _ c11).2 hgo h2
            first
              | (rw [rp_h_n (h := h) (a := a) c59] at hp2; exact hp2 hh)
              | (rw [rp_h_s (h := h) (a := a) c59] at hp2; exact hp2 hh)
        · refine zz_iconst (q := 46) (n := 0) (x := 0) C (by decide +kernel) rfl (by decide +kernel) ?_
          exfalso
          exact (hp _ c11).1 ⟨zz_b_t c31, zz_b_f c42⟩
    · exact zz_throw (q := 20) (i0 := 67) (i1 := 214) (tx := "no segment is held") C hx xx_ownS (by decide +kernel) (zz_in (i := 364) (by decide +kernel) (by decide +kernel)) (zz_in (i := 365) (by decide +kernel) (by decide +kernel)) (zz_in (i := 45) (by decide +kernel) (by decide +kernel)) (by decide +kernel) (by decide +kernel) (by decide +kernel) (Or.inl ⟨by decide +kernel, rfl⟩) (by decide +kernel) (by decide +kernel) hQ (by decide) (by decide) (by decide) (by decide) (by decide) (by decide) (hpX c11)

def B_T_delete : zz_TB := fun as h post postX => ∃ a, as = [zz_r 0 (some a)] ∧ t_wf h a ∧ or_okB h (t_od h a) ∧ or_sw h (t_od h a) ∧ or_sy h (t_od h a) ∧ (zz_fR h 0 5 a = none → postX "java/lang/IllegalStateException" (t_h0 h a)) ∧ ∀ g f r, zz_fR h 0 5 a = some g → f ≤ or_s h (t_od h a) → (∀ j, j < f → zz_aR h (or_n h (t_od h a)) j ≠ some g) → (f < or_s h (t_od h a) → zz_aR h (or_n h (t_od h a)) f = some g) → or_first (or_s h (t_od h a)) f (fun i => ¬ sg_at h (sg_lv h g) (or_N h (t_od h a) i) = some g) (or_N h (t_od h a)) r → ∀ w x h2, or_tf (de_h h a g) w → or_J (de_h h a g) (t_od h a) g (or_s (de_h h a g) (t_od h a)) w → or_X2 (de_h h a g) (t_od h a) g x → or_arr (or_rm (de_h h a g) (t_od h a) (or_kl (de_h h a g) (t_od h a) g (or_s (de_h h a g) (t_od h a))).length w x) (t_od h a) h2 → post (some (zz_i (nI (or_s (de_h h a g) (t_od h a) - (or_kl (de_h h a g) (t_od h a) g (or_s (de_h h a g) (t_od h a))).length)))) (zz_pI (zz_pI (zz_pR h2 6 0 (t_ps h a) r) 6 1 (t_ps h a) 0) 6 2 (t_ps h a) (zz_b (r = none)))
set_option maxRecDepth 100000 in
set_option maxHeartbeats 4000000 in
theorem m_T_delete (l : Launch) : zz_Met l y_T_delete w_T_delete { frames := 7, cells := 1, slots := 6, locals := 149 } (fun as h post => B_T_delete as h post (fun _ _ => False)) := by
  refine zz_ofZ (by decide) (fun as h post hT => ?_) ?_
  · obtain ⟨a, rfl, hwf, hob, hsw, hsy, hpX, hp⟩ := hT
    exact ⟨by simp [zz_cat], by simp⟩
  · intro D DA h as post hT p e s m args below meth c Q C hr hlk hnm hQ
    obtain ⟨a, rfl, hwf, hob, hsw, hsy, hpX, hp⟩ := hT
    refine zz_aload_n (q := 1) (f := 0) (i := 0) C (by decide +kernel) rfl rfl rfl ?_
    refine zz_getR (q := 4) C gf_T_40 (by decide +kernel) rfl (by first | rfl | assumption) rfl ?_
    refine zz_astore_n (q := 5) (f := 1) (i := 1) C (by decide +kernel) rfl rfl (by decide) rfl ?_
    refine zz_aload_n (q := 6) (f := 0) (i := 0) C (by decide +kernel) rfl rfl rfl ?_
    refine zz_null (q := 7) C 2 (by decide +kernel) rfl ?_
    refine zz_putR (q := 10) C gf_T_40 (fun h => by cases h) (by decide +kernel) rfl (by first | rfl | assumption) ?_
    show zz_Z p l e _ s m args below meth c Q D DA (zz_A h s.heap.size) h _ _ _ _ (t_h0 h a) 0 0
    have hwf0 : t_wf (t_h0 h a) a := hwf
    refine zz_aload_n (q := 11) (f := 1) (i := 1) C (by decide +kernel) rfl rfl rfl ?_
    refine zz_ifnonnull (off := 13) (tgt := 24) (q := 14) C (by decide +kernel) (by decide) rfl (fun a11 c11 => ?_) (fun c11 => ?_)
    · rw [c11]
      refine zz_aload_n (q := 25) (f := 0) (i := 0) C (by decide +kernel) rfl rfl rfl ?_
      refine zz_getR (q := 28) C gf_T_29 (by decide +kernel) rfl (by first | rfl | assumption) hwf.1.2.2.2.1 ?_
      refine zz_aload_n (q := 29) (f := 1) (i := 1) C (by decide +kernel) rfl rfl rfl ?_
      refine zz_callV (q := 32) C (m_O_firstBehindTree l) cv_T_225 (by decide +kernel) rfl rfl rfl (by first | rfl | assumption) (by decide) (by decide) (Nat.le_of_ble_eq_true rfl) ⟨_, _, rfl, hwf0.2.1, hwf.2.2.2.1, fun f r k1 k2 k3 k4 => ?_⟩
      refine zz_astore_n (q := 33) (f := 2) (i := 2) C (by decide +kernel) rfl rfl (by decide) rfl ?_
      refine zz_aload_n (q := 34) (f := 0) (i := 0) C (by decide +kernel) rfl rfl rfl ?_
      refine zz_getR (q := 37) C gf_T_145 (by decide +kernel) rfl (by first | rfl | assumption) rfl ?_
      refine zz_ifnull (off := 19) (tgt := 56) (q := 40) C (by decide +kernel) (by decide) rfl (fun c37 => ?_) (fun a37 c37 => ?_)
      · refine zz_aload_n (q := 57) (f := 0) (i := 0) C (by decide +kernel) rfl rfl rfl ?_
        refine zz_getR (q := 60) C gf_T_29 (by decide +kernel) rfl (by first | rfl | assumption) hwf.1.2.2.2.1 ?_
        refine zz_aload_n (q := 61) (f := 1) (i := 1) C (by decide +kernel) rfl rfl rfl ?_
        refine zz_callV (q := 64) C (m_O_removeTree l) cv_T_233 (by decide +kernel) rfl rfl rfl (by first | rfl | assumption) (by decide) (by decide) (Nat.le_of_ble_eq_true rfl) ⟨_, _, rfl, hob, hwf.2.2.2.1, hsw, hsy, fun w x h2 j1 j2 j3 j4 => ?_⟩
        have hps : zz_fR h2 0 4 a = some (t_ps h a) := ((or_sm_arr j4).1.2.2.2.1 0 4 a (by decide)).trans (((or_rm_sm _ _ x j1).2.2.2.1 0 4 a (by decide)).trans hwf.1.2.2.2.2.1)
        refine zz_istore_n (q := 65) (f := 3) (i := 3) C (by decide +kernel) rfl rfl (by decide) rfl ?_
        refine zz_aload_n (q := 66) (f := 0) (i := 0) C (by decide +kernel) rfl rfl rfl ?_
        refine zz_getR (q := 69) C gf_T_36 (by decide +kernel) rfl (by first | rfl | assumption) hps ?_
        refine zz_aload_n (q := 70) (f := 2) (i := 2) C (by decide +kernel) rfl rfl rfl ?_
        refine zz_callV (q := 73) C (m_Q_standInFrontOf l) cv_T_236 (by decide +kernel) rfl rfl rfl (by first | rfl | assumption) (by decide) (by decide) (Nat.le_of_ble_eq_true rfl) ⟨_, _, rfl, ?_⟩
        refine zz_iload_n (q := 74) (f := 3) (i := 3) C (by decide +kernel) rfl rfl rfl ?_
        refine zz_iret C hr hlk (by decide +kernel) hQ (by decide) (by decide) ?_
        have hp2 := hp _ f r c11 k1 k2 k3 k4 w x h2
        first
          | (rw [de_1 (h := h) (g := a11) c37] at hp2; exact hp2 j1 j2 j3 j4)
          | (rw [de_2 (h := h) (g := a11) c37 (zz_b_f c48)] at hp2; exact hp2 j1 j2 j3 j4)
          | (rw [de_3 (h := h) (g := a11) c37 (zz_b_t c48)] at hp2; exact hp2 j1 j2 j3 j4)
      · refine zz_aload_n (q := 41) (f := 0) (i := 0) C (by decide +kernel) rfl rfl rfl ?_
        refine zz_getR (q := 44) C gf_T_145 (by decide +kernel) rfl (by first | rfl | assumption) c37 ?_
        refine zz_aload_n (q := 45) (f := 1) (i := 1) C (by decide +kernel) rfl rfl rfl ?_
        refine zz_callV (q := 48) C (m_S_isInTreeOf l) cv_T_229 (by decide +kernel) rfl rfl rfl (by first | rfl | assumption) (by decide) (by decide) (Nat.le_of_ble_eq_true rfl) ⟨_, _, rfl, hwf.2.2.2.1, ?_⟩
        refine zz_if_eq (off := 8) (tgt := 56) (q := 51) C (by decide +kernel) (by decide) rfl (fun c48 => ?_) (fun c48 => ?_)
        · refine zz_aload_n (q := 57) (f := 0) (i := 0) C (by decide +kernel) rfl rfl rfl ?_
          refine zz_getR (q := 60) C gf_T_29 (by decide +kernel) rfl (by first | rfl | assumption) hwf.1.2.2.2.1 ?_
          refine zz_aload_n (q := 61) (f := 1) (i := 1) C (by decide +kernel) rfl rfl rfl ?_
          refine zz_callV (q := 64) C (m_O_removeTree l) cv_T_233 (by decide +kernel) rfl rfl rfl (by first | rfl | assumption) (by decide) (by decide) (Nat.le_of_ble_eq_true rfl) ⟨_, _, rfl, hob, hwf.2.2.2.1, hsw, hsy, fun w x h2 j1 j2 j3 j4 => ?_⟩
          have hps : zz_fR h2 0 4 a = some (t_ps h a) := ((or_sm_arr j4).1.2.2.2.1 0 4 a (by decide)).trans (((or_rm_sm _ _ x j1).2.2.2.1 0 4 a (by decide)).trans hwf.1.2.2.2.2.1)
          refine zz_istore_n (q := 65) (f := 3) (i := 3) C (by decide +kernel) rfl rfl (by decide) rfl ?_
          refine zz_aload_n (q := 66) (f := 0) (i := 0) C (by decide +kernel) rfl rfl rfl ?_
          refine zz_getR (q := 69) C gf_T_36 (by decide +kernel) rfl (by first | rfl | assumption) hps ?_
          refine zz_aload_n (q := 70) (f := 2) (i := 2) C (by decide +kernel) rfl rfl rfl ?_
          refine zz_callV (q := 73) C (m_Q_standInFrontOf l) cv_T_236 (by decide +kernel) rfl rfl rfl (by first | rfl | assumption) (by decide) (by decide) (Nat.le_of_ble_eq_true rfl) ⟨_, _, rfl, ?_⟩
          refine zz_iload_n (q := 74) (f := 3) (i := 3) C (by decide +kernel) rfl rfl rfl ?_
          refine zz_iret C hr hlk (by decide +kernel) hQ (by decide) (by decide) ?_
          have hp2 := hp _ f r c11 k1 k2 k3 k4 w x h2
          first
            | (rw [de_1 (h := h) (g := a11) c37] at hp2; exact hp2 j1 j2 j3 j4)
            | (rw [de_2 (h := h) (g := a11) c37 (zz_b_f c48)] at hp2; exact hp2 j1 j2 j3 j4)
            | (rw [de_3 (h := h) (g := a11) c37 (zz_b_t c48)] at hp2; exact hp2 j1 j2 j3 j4)
        · refine zz_aload_n (q := 52) (f := 0) (i := 0) C (by decide +kernel) rfl rfl rfl ?_
          refine zz_null (q := 53) C 2 (by decide +kernel) rfl ?_
          refine zz_putR (q := 56) C gf_T_145 (fun h => by cases h) (by decide +kernel) rfl (by first | rfl | assumption) ?_
          refine zz_aload_n (q := 57) (f := 0) (i := 0) C (by decide +kernel) rfl rfl rfl ?_
          refine zz_getR (q := 60) C gf_T_29 (by decide +kernel) rfl (by first | rfl | assumption) hwf.1.2.2.2.1 ?_
          refine zz_aload_n (q := 61) (f := 1) (i := 1) C (by decide +kernel) rfl rfl rfl ?_
          refine zz_callV (q := 64) C (m_O_removeTree l) cv_T_233 (by decide +kernel) rfl rfl rfl (by first | rfl | assumption) (by decide) (by decide) (Nat.le_of_ble_eq_true rfl) ⟨_, _, rfl, hob, hwf.2.2.2.1, hsw, hsy, fun w x h2 j1 j2 j3 j4 => ?_⟩
          have hps : zz_fR h2 0 4 a = some (t_ps h a) := ((or_sm_arr j4).1.2.2.2.1 0 4 a (by decide)).trans (((or_rm_sm _ _ x j1).2.2.2.1 0 4 a (by decide)).trans hwf.1.2.2.2.2.1)
          refine zz_istore_n (q := 65) (f := 3) (i := 3) C (by decide +kernel) rfl rfl (by decide) rfl ?_
          refine zz_aload_n (q := 66) (f := 0) (i := 0) C (by decide +kernel) rfl rfl rfl ?_
          refine zz_getR (q := 69) C gf_T_36 (by decide +kernel) rfl (by first | rfl | assumption) hps ?_
          refine zz_aload_n (q := 70) (f := 2) (i := 2) C (by decide +kernel) rfl rfl rfl ?_
          refine zz_callV (q := 73) C (m_Q_standInFrontOf l) cv_T_236 (by decide +kernel) rfl rfl rfl (by first | rfl | assumption) (by decide) (by decide) (Nat.le_of_ble_eq_true rfl) ⟨_, _, rfl, ?_⟩
          refine zz_iload_n (q := 74) (f := 3) (i := 3) C (by decide +kernel) rfl rfl rfl ?_
          refine zz_iret C hr hlk (by decide +kernel) hQ (by decide) (by decide) ?_
          have hp2 := hp _ f r c11 k1 k2 k3 k4 w x h2
          first
            | (rw [de_1 (h := h) (g := a11) c37] at hp2; exact hp2 j1 j2 j3 j4)
            | (rw [de_2 (h := h) (g := a11) c37 (zz_b_f c48)] at hp2; exact hp2 j1 j2 j3 j4)
            | (rw [de_3 (h := h) (g := a11) c37 (zz_b_t c48)] at hp2; exact hp2 j1 j2 j3 j4)
    · exact False.elim (hpX c11)
set_option maxRecDepth 100000 in
set_option maxHeartbeats 4000000 in
theorem x_T_delete (l : Launch) (hl : l.stackTraces = false) : zz_MetX l y_T_delete w_T_delete { frames := 7, cells := 1, slots := 6, locals := 149 } (fun as h postX => B_T_delete as h (fun _ _ => False) postX) := by
  refine zz_ofX hl (by decide) (fun as h postX hT => ?_) ?_
  · obtain ⟨a, rfl, hwf, hob, hsw, hsy, hpX, hp⟩ := hT
    exact ⟨by simp [zz_cat], by simp⟩
  · intro D DA h as postX hT p e s m args below meth c Q C hx hnm hQ
    obtain ⟨a, rfl, hwf, hob, hsw, hsy, hpX, hp⟩ := hT
    refine zz_aload_n (q := 1) (f := 0) (i := 0) C (by decide +kernel) rfl rfl rfl ?_
    refine zz_getR (q := 4) C gf_T_40 (by decide +kernel) rfl (by first | rfl | assumption) rfl ?_
    refine zz_astore_n (q := 5) (f := 1) (i := 1) C (by decide +kernel) rfl rfl (by decide) rfl ?_
    refine zz_aload_n (q := 6) (f := 0) (i := 0) C (by decide +kernel) rfl rfl rfl ?_
    refine zz_null (q := 7) C 2 (by decide +kernel) rfl ?_
    refine zz_putR (q := 10) C gf_T_40 (fun h => by cases h) (by decide +kernel) rfl (by first | rfl | assumption) ?_
    show zz_Z p l e _ s m args below meth c Q D DA (zz_A h s.heap.size) h _ _ _ _ (t_h0 h a) 0 0
    have hwf0 : t_wf (t_h0 h a) a := hwf
    refine zz_aload_n (q := 11) (f := 1) (i := 1) C (by decide +kernel) rfl rfl rfl ?_
    refine zz_ifnonnull (off := 13) (tgt := 24) (q := 14) C (by decide +kernel) (by decide) rfl (fun a11 c11 => ?_) (fun c11 => ?_)
    · rw [c11]
      refine zz_aload_n (q := 25) (f := 0) (i := 0) C (by decide +kernel) rfl rfl rfl ?_
      refine zz_getR (q := 28) C gf_T_29 (by decide +kernel) rfl (by first | rfl | assumption) hwf.1.2.2.2.1 ?_
      refine zz_aload_n (q := 29) (f := 1) (i := 1) C (by decide +kernel) rfl rfl rfl ?_
      refine zz_callV (q := 32) C (m_O_firstBehindTree l) cv_T_225 (by decide +kernel) rfl rfl rfl (by first | rfl | assumption) (by decide) (by decide) (Nat.le_of_ble_eq_true rfl) ⟨_, _, rfl, hwf0.2.1, hwf.2.2.2.1, fun f r k1 k2 k3 k4 => ?_⟩
      refine zz_astore_n (q := 33) (f := 2) (i := 2) C (by decide +kernel) rfl rfl (by decide) rfl ?_
      refine zz_aload_n (q := 34) (f := 0) (i := 0) C (by decide +kernel) rfl rfl rfl ?_
      refine zz_getR (q := 37) C gf_T_145 (by decide +kernel) rfl (by first | rfl | assumption) rfl ?_
      refine zz_ifnull (off := 19) (tgt := 56) (q := 40) C (by decide +kernel) (by decide) rfl (fun c37 => ?_) (fun a37 c37 => ?_)
      · refine zz_aload_n (q := 57) (f := 0) (i := 0) C (by decide +kernel) rfl rfl rfl ?_
        refine zz_getR (q := 60) C gf_T_29 (by decide +kernel) rfl (by first | rfl | assumption) hwf.1.2.2.2.1 ?_
        refine zz_aload_n (q := 61) (f := 1) (i := 1) C (by decide +kernel) rfl rfl rfl ?_
        refine zz_callV (q := 64) C (m_O_removeTree l) cv_T_233 (by decide +kernel) rfl rfl rfl (by first | rfl | assumption) (by decide) (by decide) (Nat.le_of_ble_eq_true rfl) ⟨_, _, rfl, hob, hwf.2.2.2.1, hsw, hsy, fun w x h2 j1 j2 j3 j4 => ?_⟩
        have hps : zz_fR h2 0 4 a = some (t_ps h a) := ((or_sm_arr j4).1.2.2.2.1 0 4 a (by decide)).trans (((or_rm_sm _ _ x j1).2.2.2.1 0 4 a (by decide)).trans hwf.1.2.2.2.2.1)
        refine zz_istore_n (q := 65) (f := 3) (i := 3) C (by decide +kernel) rfl rfl (by decide) rfl ?_
        refine zz_aload_n (q := 66) (f := 0) (i := 0) C (by decide +kernel) rfl rfl rfl ?_
        refine zz_getR (q := 69) C gf_T_36 (by decide +kernel) rfl (by first | rfl | assumption) hps ?_
        refine zz_aload_n (q := 70) (f := 2) (i := 2) C (by decide +kernel) rfl rfl rfl ?_
        refine zz_callV (q := 73) C (m_Q_standInFrontOf l) cv_T_236 (by decide +kernel) rfl rfl rfl (by first | rfl | assumption) (by decide) (by decide) (Nat.le_of_ble_eq_true rfl) ⟨_, _, rfl, ?_⟩
        refine zz_iload_n (q := 74) (f := 3) (i := 3) C (by decide +kernel) rfl rfl rfl ?_
        exfalso
        have hp2 := hp _ f r c11 k1 k2 k3 k4 w x h2
        first
          | (rw [de_1 (h := h) (g := a11) c37] at hp2; exact hp2 j1 j2 j3 j4)
          | (rw [de_2 (h := h) (g := a11) c37 (zz_b_f c48)] at hp2; exact hp2 j1 j2 j3 j4)
          | (rw [de_3 (h := h) (g := a11) c37 (zz_b_t c48)] at hp2; exact hp2 j1 j2 j3 j4)
      · refine zz_aload_n (q := 41) (f := 0) (i := 0) C (by decide +kernel) rfl rfl rfl ?_
        refine zz_getR (q := 44) C gf_T_145 (by decide +kernel) rfl (by first | rfl | assumption) c37 ?_
        refine zz_aload_n (q := 45) (f := 1) (i := 1) C (by decide +kernel) rfl rfl rfl ?_
        refine zz_callV (q := 48) C (m_S_isInTreeOf l) cv_T_229 (by decide +kernel) rfl rfl rfl (by first | rfl | assumption) (by decide) (by decide) (Nat.le_of_ble_eq_true rfl) ⟨_, _, rfl, hwf.2.2.2.1, ?_⟩
        refine zz_if_eq (off := 8) (tgt := 56) (q := 51) C (by decide +kernel) (by decide) rfl (fun c48 => ?_) (fun c48 => ?_)
        · refine zz_aload_n (q := 57) (f := 0) (i := 0) C (by decide +kernel) rfl rfl rfl ?_
          refine zz_getR (q := 60) C gf_T_29 (by decide +kernel) rfl (by first | rfl | assumption) hwf.1.2.2.2.1 ?_
          refine zz_aload_n (q := 61) (f := 1) (i := 1) C (by decide +kernel) rfl rfl rfl ?_
          refine zz_callV (q := 64) C (m_O_removeTree l) cv_T_233 (by decide +kernel) rfl rfl rfl (by first | rfl | assumption) (by decide) (by decide) (Nat.le_of_ble_eq_true rfl) ⟨_, _, rfl, hob, hwf.2.2.2.1, hsw, hsy, fun w x h2 j1 j2 j3 j4 => ?_⟩
          have hps : zz_fR h2 0 4 a = some (t_ps h a) := ((or_sm_arr j4).1.2.2.2.1 0 4 a (by decide)).trans (((or_rm_sm _ _ x j1).2.2.2.1 0 4 a (by decide)).trans hwf.1.2.2.2.2.1)
          refine zz_istore_n (q := 65) (f := 3) (i := 3) C (by decide +kernel) rfl rfl (by decide) rfl ?_
          refine zz_aload_n (q := 66) (f := 0) (i := 0) C (by decide +kernel) rfl rfl rfl ?_
          refine zz_getR (q := 69) C gf_T_36 (by decide +kernel) rfl (by first | rfl | assumption) hps ?_
          refine zz_aload_n (q := 70) (f := 2) (i := 2) C (by decide +kernel) rfl rfl rfl ?_
          refine zz_callV (q := 73) C (m_Q_standInFrontOf l) cv_T_236 (by decide +kernel) rfl rfl rfl (by first | rfl | assumption) (by decide) (by decide) (Nat.le_of_ble_eq_true rfl) ⟨_, _, rfl, ?_⟩
          refine zz_iload_n (q := 74) (f := 3) (i := 3) C (by decide +kernel) rfl rfl rfl ?_
          exfalso
          have hp2 := hp _ f r c11 k1 k2 k3 k4 w x h2
          first
            | (rw [de_1 (h := h) (g := a11) c37] at hp2; exact hp2 j1 j2 j3 j4)
            | (rw [de_2 (h := h) (g := a11) c37 (zz_b_f c48)] at hp2; exact hp2 j1 j2 j3 j4)
            | (rw [de_3 (h := h) (g := a11) c37 (zz_b_t c48)] at hp2; exact hp2 j1 j2 j3 j4)
        · refine zz_aload_n (q := 52) (f := 0) (i := 0) C (by decide +kernel) rfl rfl rfl ?_
          refine zz_null (q := 53) C 2 (by decide +kernel) rfl ?_
          refine zz_putR (q := 56) C gf_T_145 (fun h => by cases h) (by decide +kernel) rfl (by first | rfl | assumption) ?_
          refine zz_aload_n (q := 57) (f := 0) (i := 0) C (by decide +kernel) rfl rfl rfl ?_
          refine zz_getR (q := 60) C gf_T_29 (by decide +kernel) rfl (by first | rfl | assumption) hwf.1.2.2.2.1 ?_
          refine zz_aload_n (q := 61) (f := 1) (i := 1) C (by decide +kernel) rfl rfl rfl ?_
          refine zz_callV (q := 64) C (m_O_removeTree l) cv_T_233 (by decide +kernel) rfl rfl rfl (by first | rfl | assumption) (by decide) (by decide) (Nat.le_of_ble_eq_true rfl) ⟨_, _, rfl, hob, hwf.2.2.2.1, hsw, hsy, fun w x h2 j1 j2 j3 j4 => ?_⟩
          have hps : zz_fR h2 0 4 a = some (t_ps h a) := ((or_sm_arr j4).1.2.2.2.1 0 4 a (by decide)).trans (((or_rm_sm _ _ x j1).2.2.2.1 0 4 a (by decide)).trans hwf.1.2.2.2.2.1)
          refine zz_istore_n (q := 65) (f := 3) (i := 3) C (by decide +kernel) rfl rfl (by decide) rfl ?_
          refine zz_aload_n (q := 66) (f := 0) (i := 0) C (by decide +kernel) rfl rfl rfl ?_
          refine zz_getR (q := 69) C gf_T_36 (by decide +kernel) rfl (by first | rfl | assumption) hps ?_
          refine zz_aload_n (q := 70) (f := 2) (i := 2) C (by decide +kernel) rfl rfl rfl ?_
          refine zz_callV (q := 73) C (m_Q_standInFrontOf l) cv_T_236 (by decide +kernel) rfl rfl rfl (by first | rfl | assumption) (by decide) (by decide) (Nat.le_of_ble_eq_true rfl) ⟨_, _, rfl, ?_⟩
          refine zz_iload_n (q := 74) (f := 3) (i := 3) C (by decide +kernel) rfl rfl rfl ?_
          exfalso
          have hp2 := hp _ f r c11 k1 k2 k3 k4 w x h2
          first
            | (rw [de_1 (h := h) (g := a11) c37] at hp2; exact hp2 j1 j2 j3 j4)
            | (rw [de_2 (h := h) (g := a11) c37 (zz_b_f c48)] at hp2; exact hp2 j1 j2 j3 j4)
            | (rw [de_3 (h := h) (g := a11) c37 (zz_b_t c48)] at hp2; exact hp2 j1 j2 j3 j4)
    · exact zz_throw (q := 20) (i0 := 67) (i1 := 214) (tx := "no segment is held") C hx xx_ownS (by decide +kernel) (zz_in (i := 364) (by decide +kernel) (by decide +kernel)) (zz_in (i := 365) (by decide +kernel) (by decide +kernel)) (zz_in (i := 45) (by decide +kernel) (by decide +kernel)) (by decide +kernel) (by decide +kernel) (by decide +kernel) (Or.inl ⟨by decide +kernel, rfl⟩) (by decide +kernel) (by decide +kernel) hQ (by decide) (by decide) (by decide) (by decide) (by decide) (by decide) (hpX c11)
end
section
/-! SegmentTrees: insert -/
def in_par (h : zz_H) (a k : Nat) (par : Option Nat) : Prop := (zz_fR h 1 1 k = none ∧ par = none) ∨ ∃ pk lv s9, zz_fR h 1 1 k = some pk ∧ lv ≤ 4 ∧ zz_fI h 1 2 pk = nI lv ∧ or_first (or_s h (t_od h a)) 0 (or_fp h (t_od h a) pk (t_pa h a) lv) (or_N h (t_od h a)) (some s9) ∧ par = some s9
def in_nop (h : zz_H) (a k : Nat) : Prop := ∃ pk lv, zz_fR h 1 1 k = some pk ∧ lv ≤ 4 ∧ zz_fI h 1 2 pk = nI lv ∧ or_first (or_s h (t_od h a)) 0 (or_fp h (t_od h a) pk (t_pa h a) lv) (or_N h (t_od h a)) none
def in_dup (h : zz_H) (a k : Nat) (par : Option Nat) : Prop := zz_fI h 1 5 k ≠ 0 ∧ ∃ i, i < or_s h (t_od h a) ∧ or_sb h (t_od h a) (some k) par (t_ww h a) i
def in_h3 (h : zz_H) (a f wd k : Nat) (par : Option Nat) : zz_H := zz_pR (zz_pR (zz_pI (zz_pR (zz_newA (zz_new (zz_pI (t_h0 h a) 0 7 a (zz_fI h 0 7 a + 1)) 2 f) 90 4 wd) 2 3 f (some wd)) 2 0 f (zz_fI h 0 7 a + 1)) 2 1 f (some k)) 2 2 f par
def in_h4 (h : zz_H) (a f wd k : Nat) (par : Option Nat) : zz_H := t_tw (in_h3 h a f wd k par) a f
def in_h5 (h4 : zz_H) (a f : Nat) (r : Option Nat) : zz_H := match r with
  | none => h4
  | some s => t_jn h4 a f s
theorem in_num (h : zz_H) (a f : Nat) (v : Int32) : zz_fI (zz_new (zz_pI h 0 7 a v) 2 f) 0 7 a = v := if_pos ⟨rfl, rfl, rfl⟩
section IN
variable {h : zz_H} {a f wd k : Nat} {par : Option Nat}
theorem in_tg {x : Nat} {t : Nat × Nat} (hf : zz_tg h f = none) (hw : zz_tg (zz_new h 2 f) wd = none) (hx : zz_tg h x = some t) : zz_tg (in_h3 h a f wd k par) x = some t := zz_tg_old (h := zz_new (zz_pI (t_h0 h a) 0 7 a (zz_fI h 0 7 a + 1)) 2 f) (zz_tg_oldO (h := zz_pI (t_h0 h a) 0 7 a (zz_fI h 0 7 a + 1)) hx hf) hw
theorem in_fw (hw : zz_tg (zz_new h 2 f) wd = none) : f ≠ wd := fun z => by
  rw [← z, zz_tg_new, if_pos rfl] at hw
  cases hw
theorem in_tg9 {x : Nat} {t : Nat × Nat} (hx : zz_tg (in_h3 h a f wd k par) x = some t) : x = wd ∧ t = (90, 4) ∨ x = f ∧ t = (2, 0) ∨ zz_tg h x = some t := by
  have hx : (if x = wd then some (90, 4) else if x = f then some (2, 0) else zz_tg h x) = some t := hx
  by_cases h1 : x = wd
  · rw [if_pos h1] at hx; exact Or.inl ⟨h1, (Option.some.inj hx).symm⟩
  · rw [if_neg h1] at hx
    by_cases h2 : x = f
    · rw [if_pos h2] at hx; exact Or.inr (Or.inl ⟨h2, (Option.some.inj hx).symm⟩)
    · rw [if_neg h2] at hx; exact Or.inr (Or.inr hx)
theorem in_r {x : Nat} (hx : x ≠ f) (j : Nat) : zz_fR (in_h3 h a f wd k par) 2 j x = zz_fR h 2 j x := by
  show (if 2 = 2 ∧ j = 2 ∧ x = f then par else if 2 = 2 ∧ j = 1 ∧ x = f then some k else if 2 = 2 ∧ j = 3 ∧ x = f then some wd else if 2 = 2 ∧ x = f then none else zz_fR h 2 j x) = _
  rw [if_neg (fun z => hx z.2.2), if_neg (fun z => hx z.2.2), if_neg (fun z => hx z.2.2), if_neg (fun z => hx z.2)]
theorem in_i {x : Nat} (hx : x ≠ f) (j : Nat) : zz_fI (in_h3 h a f wd k par) 2 j x = zz_fI h 2 j x := by
  show (if 2 = 2 ∧ j = 0 ∧ x = f then zz_fI h 0 7 a + 1 else if 2 = 2 ∧ x = f then 0 else zz_fI h 2 j x) = _
  rw [if_neg (fun z => hx z.2.2), if_neg (fun z => hx z.2)]
theorem in_f1 : zz_fR (in_h3 h a f wd k par) 2 1 f = some k := if_pos ⟨rfl, rfl, rfl⟩
theorem in_f3 : zz_fR (in_h3 h a f wd k par) 2 3 f = some wd := if_pos ⟨rfl, rfl, rfl⟩
theorem in_f2 : zz_fR (in_h3 h a f wd k par) 2 2 f = par := if_pos ⟨rfl, rfl, rfl⟩
theorem in_f4 : zz_fR (in_h3 h a f wd k par) 2 4 f = none := if_pos ⟨rfl, rfl⟩
theorem in_f5 : zz_fI (in_h3 h a f wd k par) 2 5 f = 0 := if_pos ⟨rfl, rfl⟩
theorem in_f0 : zz_fI (in_h3 h a f wd k par) 2 0 f = zz_fI h 0 7 a + 1 := if_pos ⟨rfl, rfl, rfl⟩
theorem in_wd : zz_tg (in_h3 h a f wd k par) wd = some (90, 4) := if_pos rfl
theorem in_okf : sg_ok (in_h3 h a f wd k par) f := by
  have e1 : sg_k (in_h3 h a f wd k par) f = k := by rw [sg_k, in_f1]; rfl
  have e3 : sg_w (in_h3 h a f wd k par) f = wd := by rw [sg_w, in_f3]; rfl
  exact ⟨by rw [e1]; exact in_f1, by rw [e3]; exact in_f3, by rw [e3]; exact in_wd, Or.inl in_f5⟩
theorem in_wf (hf : zz_tg h f = none) (hw : zz_tg (zz_new h 2 f) wd = none) (hwf : sg_wf h) : sg_wf (in_h3 h a f wd k par) := fun x n hx => by
  by_cases hxf : x = f
  · rw [hxf]; exact in_okf
  · rcases in_tg9 hx with ⟨-, z⟩ | ⟨z, -⟩ | z
    · exact absurd (congrArg Prod.fst z) (show ¬ (2 : Nat) = 90 by decide)
    · exact absurd z hxf
    · obtain ⟨h1, h2, h3, h4⟩ := hwf x n z
      have e1 : sg_k (in_h3 h a f wd k par) x = sg_k h x := by rw [sg_k, in_r hxf]; rfl
      have e3 : sg_w (in_h3 h a f wd k par) x = sg_w h x := by rw [sg_w, in_r hxf]; rfl
      refine ⟨?_, ?_, ?_, ?_⟩
      · rw [e1, in_r hxf]; exact h1
      · rw [e3, in_r hxf]; exact h2
      · rw [e3]; exact in_tg hf hw h3
      · rw [in_i hxf]; exact h4
theorem in_kw (hkw : kd_wf h) : kd_wf (in_h3 h a f wd k par) := fun x n hx => by
  rcases in_tg9 hx with ⟨-, z⟩ | ⟨-, z⟩ | z
  · exact absurd (congrArg Prod.fst z) (show ¬ (1 : Nat) = 90 by decide)
  · exact absurd (congrArg Prod.fst z) (show ¬ (1 : Nat) = 2 by decide)
  · exact hkw x n z
theorem in_ok (hf : zz_tg h f = none) (hw : zz_tg (zz_new h 2 f) wd = none) {d : Nat} (hok : or_ok h d) : or_ok (in_h3 h a f wd k par) d := ⟨hok.1, hok.2.1, in_tg hf hw hok.2.2.1, in_tg hf hw hok.2.2.2.1, hok.2.2.2.2.1, hok.2.2.2.2.2.1, hok.2.2.2.2.2.2⟩
theorem in_aR (hw : zz_tg (zz_new h 2 f) wd = none) (hf : zz_tg h f = none) {b : Nat} {t : Nat × Nat} (hb : zz_tg h b = some t) (i : Nat) : zz_aR (in_h3 h a f wd k par) b i = zz_aR h b i := if_neg (zz_tg_ne (h := zz_new h 2 f) (zz_tg_oldO hb hf) hw)
theorem in_okN (hf : zz_tg h f = none) (hw : zz_tg (zz_new h 2 f) wd = none) {d : Nat} (hok : or_okN h d) : or_okN (in_h3 h a f wd k par) d := ⟨in_ok hf hw hok.1, fun i hi => by
  have e : zz_aR (in_h3 h a f wd k par) (or_n h d) i = zz_aR h (or_n h d) i := in_aR hw hf hok.1.2.2.2.1 i
  have e2 : or_N (in_h3 h a f wd k par) d i = or_N h d i := congrArg (fun z => z.getD 0) e
  rw [e2]
  exact e.trans (hok.2 i hi)⟩
theorem in_okB (hf : zz_tg h f = none) (hw : zz_tg (zz_new h 2 f) wd = none) {d : Nat} (hok : or_okB h d) : or_okB (in_h3 h a f wd k par) d := ⟨in_ok hf hw hok.1, fun i hi => by
  have e : zz_aR (in_h3 h a f wd k par) (or_b h d) i = zz_aR h (or_b h d) i := in_aR hw hf hok.1.2.2.1 i
  have e2 : or_B (in_h3 h a f wd k par) d i = or_B h d i := congrArg (fun z => z.getD 0) e
  rw [e2]
  exact e.trans (hok.2 i hi)⟩
theorem in_tok (hf : zz_tg h f = none) (hw : zz_tg (zz_new h 2 f) wd = none) (hok : t_ok h a) : t_ok (in_h3 h a f wd k par) a := ⟨hok.1, hok.2.1, hok.2.2.1, hok.2.2.2.1, hok.2.2.2.2.1, in_tg hf hw hok.2.2.2.2.2.1, in_tg hf hw hok.2.2.2.2.2.2⟩
end IN
def B_T_insert : zz_TB := fun as h post postX => ∃ a t, as = [zz_r 0 (some a), zz_i t] ∧ t_wf h a ∧ or_okB h (t_od h a) ∧ or_sw h (t_od h a) ∧ kd_lv h ∧ (t_k h a t = none → postX "java/lang/IllegalArgumentException" (t_h0 h a)) ∧ ∀ k, t_k h a t = some k → (in_nop h a k → post (some (zz_i (-2))) (t_h0 h a)) ∧ ∀ par, in_par h a k par → (in_dup h a k par → post (some (zz_i (-3))) (t_h0 h a)) ∧ (¬ in_dup h a k par → (60 ≤ or_s h (t_od h a) → post (some (zz_i (-4))) (t_h0 h a)) ∧ (or_s h (t_od h a) < 60 → ∀ f wd r to h6, zz_tg h f = none → zz_tg (zz_new h 2 f) wd = none → or_best (in_h4 h a f wd k par) (or_s (in_h4 h a f wd k par) (t_od h a)) (or_tw (in_h4 h a f wd k par) (t_od h a) f) (or_N (in_h4 h a f wd k par) (t_od h a)) r → or_entry (in_h5 (in_h4 h a f wd k par) a f r) (t_od h a) f to → or_arr (or_is (in_h5 (in_h4 h a f wd k par) a f r) (t_od h a) f to) (t_od h a) h6 → post (some (zz_i (zz_fI h 0 7 a + 1))) (zz_pI (zz_pI (zz_pR h6 6 0 (t_ps h a) (some f)) 6 1 (t_ps h a) 1) 6 2 (t_ps h a) 0)))
set_option maxRecDepth 100000 in
set_option maxHeartbeats 4000000 in
theorem m_T_insert (l : Launch) : zz_Met l y_T_insert w_T_insert { frames := 7, cells := 3, slots := 17, locals := 148 } (fun as h post => B_T_insert as h post (fun _ _ => False)) := by
  refine zz_ofZ (by decide) (fun as h post hT => ?_) ?_
  · obtain ⟨a, t, rfl, hwf, hob, hsw, hlv, hpX, hp⟩ := hT
    exact ⟨by simp [zz_cat], by simp⟩
  · intro D DA h as post hT p e s m args below meth c Q C hr hlk hnm hQ
    obtain ⟨a, t, rfl, hwf, hob, hsw, hlv, hpX, hp⟩ := hT
    have lp69 : ∀ k par, t_k h a t = some k → in_par h a k par → ¬ in_dup h a k par → zz_Z p l e { frames := 7, cells := 3, slots := 17, locals := 148 } s m args below meth c Q D DA (zz_A h s.heap.size) h 5 69 [some (zz_r 0 (some a)), some (zz_i t), some (zz_r 1 (some k)), some (zz_r 2 par), none] [] (t_h0 h a) 1 6 := by
      intro k par hk hpar hnd
      have hok0 : t_ok (t_h0 h a) a := hwf.1
      have hwf0 : t_wf (t_h0 h a) a := hwf
      refine zz_know (fun hty _ hTL _ => ?_)
      obtain ⟨nk, htk⟩ := hTL 2 _ rfl _ rfl
      refine zz_aload_n (q := 70) (f := 0) (i := 0) C (by decide +kernel) rfl rfl rfl ?_
      refine zz_getR (q := 73) C gf_T_29 (by decide +kernel) rfl (by first | rfl | assumption) hwf.1.2.2.2.1 ?_
      refine zz_getI (q := 76) C gf_T_191 (by decide +kernel) rfl (by first | rfl | assumption) hwf.2.1.1.2.2.2.2.2.2 ?_
      refine zz_bipush (q := 78) (n := 60) (x := 60) C (by decide +kernel) rfl (by decide +kernel) ?_
      refine zz_icmp_lt (off := 6) (tgt := 84) (q := 81) C (by decide +kernel) (by decide) rfl (fun c78 => ?_) (fun c78 => ?_)
      · have hb60 := hwf.2.1.1.2.2.2.2.2.1
        have hs60 : or_s h (t_od h a) < 60 := (nI_ltI (by omega) (by decide)).mp c78
        refine zz_aload_n (q := 85) (f := 0) (i := 0) C (by decide +kernel) rfl rfl rfl ?_
        refine zz_dup (q := 86) C (by decide +kernel) rfl rfl ?_
        refine zz_getI (q := 89) C gf_T_194 (by decide +kernel) rfl (by first | rfl | assumption) rfl ?_
        refine zz_iconst (q := 90) (n := 1) (x := 1) C (by decide +kernel) rfl (by decide +kernel) ?_
        refine zz_iadd (q := 91) C (by decide +kernel) rfl rfl ?_
        refine zz_putI (q := 94) C gf_T_194 (fun h => by cases h) (fun h => by cases h) (by decide +kernel) rfl (by first | rfl | assumption) ?_
        refine zz_newO (q := 97) (ci := 2) C rfl kl_T_157 ni_S nj_S (by decide +kernel) rfl (by decide) (by decide) (fun a94 n94 => ?_)
        refine zz_dup (q := 98) C (by decide +kernel) rfl rfl ?_
        refine zz_aload_n (q := 99) (f := 0) (i := 0) C (by decide +kernel) rfl rfl rfl ?_
        refine zz_getI (q := 102) C gf_T_194 (by decide +kernel) rfl (by first | rfl | assumption) (in_num _ _ _ _) ?_
        refine zz_aload_n (q := 103) (f := 2) (i := 2) C (by decide +kernel) rfl rfl rfl ?_
        refine zz_aload_n (q := 104) (f := 3) (i := 3) C (by decide +kernel) rfl rfl rfl ?_
        refine zz_callI (q := 107) C (m_S_init l) ci_T_197 (by decide +kernel) rfl rfl rfl (by first | rfl | assumption) (by decide) (by decide) (Nat.le_of_ble_eq_true rfl) ⟨_, _, _, _, rfl, fun wd hwd => ?_⟩
        show zz_Z p l e _ s m args below meth c Q D DA (zz_A h s.heap.size) h _ _ _ _ (in_h3 h a a94 wd k par) _ _
        have n94 : zz_tg h a94 = none := n94
        have hwd : zz_tg (zz_new h 2 a94) wd = none := hwd
        have ek : sg_k (in_h3 h a a94 wd k par) a94 = k := by rw [sg_k, in_f1]; rfl
        have hkk : kd_ok (in_h3 h a a94 wd k par) (sg_k (in_h3 h a a94 wd k par) a94) := by rw [ek]; exact hwf.2.2.2.2 k nk htk
        have tok3 := in_tok (k := k) (par := par) n94 hwd hwf.1
        have wf3 := in_wf (a := a) (k := k) (par := par) n94 hwd hwf.2.2.2.1
        have kw3 := in_kw (a := a) (f := a94) (wd := wd) (k := k) (par := par) hwf.2.2.2.2
        have okN3 := in_okN (a := a) (k := k) (par := par) n94 hwd hwf.2.1
        have okB3 := in_okB (a := a) (k := k) (par := par) n94 hwd hob
        refine zz_astore (q := 109) (i := 4) C (by decide +kernel) rfl (by decide) rfl ?_
        refine zz_aload (q := 111) (i := 4) C (by decide +kernel) rfl rfl ?_
        refine zz_aload_n (q := 112) (f := 0) (i := 0) C (by decide +kernel) rfl rfl rfl ?_
        refine zz_getR (q := 115) C gf_T_15 (by decide +kernel) rfl (by first | rfl | assumption) hwf.1.2.1 ?_
        refine zz_callV (q := 118) C (m_S_takeWords l) cv_T_200 (by decide +kernel) rfl rfl rfl (by first | rfl | assumption) (by decide) (by decide) (Nat.le_of_ble_eq_true rfl) ⟨_, _, rfl, in_okf, hkk, tok3.2.2.2.2.2.2, ?_⟩
        show zz_Z p l e _ s m args below meth c Q D DA (zz_A h s.heap.size) h _ _ _ _ (in_h4 h a a94 wd k par) _ _
        refine zz_aload_n (q := 119) (f := 0) (i := 0) C (by decide +kernel) rfl rfl rfl ?_
        refine zz_aload (q := 121) (i := 4) C (by decide +kernel) rfl rfl ?_
        refine zz_callV (q := 124) C (m_T_joinTwin l) cv_T_204 (by decide +kernel) rfl rfl rfl (by first | rfl | assumption) (by decide) (by decide) (Nat.le_of_ble_eq_true rfl) ⟨_, _, rfl, tok3, okN3, wf3, kw3, fun r hr9 => ⟨fun z => ?_, fun s9 z => ?_⟩⟩
        · subst z
          have sm5 : zz_fI (in_h4 h a a94 wd k par) 2 0 a94 = zz_fI h 0 7 a + 1 := in_f0 (k := k) (par := par)
          refine zz_aload_n (q := 125) (f := 0) (i := 0) C (by decide +kernel) rfl rfl rfl ?_
          refine zz_getR (q := 128) C gf_T_29 (by decide +kernel) rfl (by first | rfl | assumption) hwf.1.2.2.2.1 ?_
          refine zz_aload (q := 130) (i := 4) C (by decide +kernel) rfl rfl ?_
          refine zz_callV (q := 133) C (m_O_enter l) cv_T_208 (by decide +kernel) rfl rfl rfl (by first | rfl | assumption) (by decide) (by decide) (Nat.le_of_ble_eq_true rfl) ⟨_, _, rfl, okB3, hs60, wf3, kw3, hsw, fun to h6 e1 e2 => ?_⟩
          have sm6 := or_sm_tr (or_is_sm _ _ _ _) (or_sm_arr e2).1
          have hps : zz_fR h6 0 4 a = some (t_ps h a) := (sm6.2.2.2.1 0 4 a (by decide)).trans hwf.1.2.2.2.2.1
          have hnb : zz_fI h6 2 0 a94 = zz_fI h 0 7 a + 1 := (sm6.2.1 2 0 a94 (by decide) (by decide)).trans sm5
          refine zz_aload_n (q := 134) (f := 0) (i := 0) C (by decide +kernel) rfl rfl rfl ?_
          refine zz_getR (q := 137) C gf_T_36 (by decide +kernel) rfl (by first | rfl | assumption) hps ?_
          refine zz_aload (q := 139) (i := 4) C (by decide +kernel) rfl rfl ?_
          refine zz_callV (q := 142) C (m_Q_standAt l) cv_T_211 (by decide +kernel) rfl rfl rfl (by first | rfl | assumption) (by decide) (by decide) (Nat.le_of_ble_eq_true rfl) ⟨_, _, rfl, ?_⟩
          refine zz_aload (q := 144) (i := 4) C (by decide +kernel) rfl rfl ?_
          refine zz_getI (q := 147) C gf_T_156 (by decide +kernel) rfl (by first | rfl | assumption) hnb ?_
          refine zz_iret C hr hlk (by decide +kernel) hQ (by decide) (by decide) ?_
          exact ((hp k hk).2 par hpar).2 hnd |>.2 hs60 a94 wd none to h6 n94 hwd hr9 e1 e2
        · subst z
          show zz_Z p l e _ s m args below meth c Q D DA (zz_A h s.heap.size) h _ _ _ _ (t_jn (in_h4 h a a94 wd k par) a a94 s9) _ _
          have sm5 : zz_fI (t_jn (in_h4 h a a94 wd k par) a a94 s9) 2 0 a94 = zz_fI h 0 7 a + 1 := in_f0 (k := k) (par := par)
          refine zz_aload_n (q := 125) (f := 0) (i := 0) C (by decide +kernel) rfl rfl rfl ?_
          refine zz_getR (q := 128) C gf_T_29 (by decide +kernel) rfl (by first | rfl | assumption) hwf.1.2.2.2.1 ?_
          refine zz_aload (q := 130) (i := 4) C (by decide +kernel) rfl rfl ?_
          refine zz_callV (q := 133) C (m_O_enter l) cv_T_208 (by decide +kernel) rfl rfl rfl (by first | rfl | assumption) (by decide) (by decide) (Nat.le_of_ble_eq_true rfl) ⟨_, _, rfl, okB3, hs60, wf3, kw3, hsw, fun to h6 e1 e2 => ?_⟩
          have sm6 := or_sm_tr (or_is_sm _ _ _ _) (or_sm_arr e2).1
          have hps : zz_fR h6 0 4 a = some (t_ps h a) := (sm6.2.2.2.1 0 4 a (by decide)).trans hwf.1.2.2.2.2.1
          have hnb : zz_fI h6 2 0 a94 = zz_fI h 0 7 a + 1 := (sm6.2.1 2 0 a94 (by decide) (by decide)).trans sm5
          refine zz_aload_n (q := 134) (f := 0) (i := 0) C (by decide +kernel) rfl rfl rfl ?_
          refine zz_getR (q := 137) C gf_T_36 (by decide +kernel) rfl (by first | rfl | assumption) hps ?_
          refine zz_aload (q := 139) (i := 4) C (by decide +kernel) rfl rfl ?_
          refine zz_callV (q := 142) C (m_Q_standAt l) cv_T_211 (by decide +kernel) rfl rfl rfl (by first | rfl | assumption) (by decide) (by decide) (Nat.le_of_ble_eq_true rfl) ⟨_, _, rfl, ?_⟩
          refine zz_aload (q := 144) (i := 4) C (by decide +kernel) rfl rfl ?_
          refine zz_getI (q := 147) C gf_T_156 (by decide +kernel) rfl (by first | rfl | assumption) hnb ?_
          refine zz_iret C hr hlk (by decide +kernel) hQ (by decide) (by decide) ?_
          exact ((hp k hk).2 par hpar).2 hnd |>.2 hs60 a94 wd (some s9) to h6 n94 hwd hr9 e1 e2
      · refine zz_bipush (q := 83) (n := -4) (x := (-4)) C (by decide +kernel) rfl (by decide +kernel) ?_
        refine zz_iret C hr hlk (by decide +kernel) hQ (by decide) (by decide) ?_
        exact (((hp k hk).2 par hpar).2 hnd).1 (Nat.le_of_not_lt (fun z => c78 (nI_lt (b := 60) z (by decide))))
    have lp43 : ∀ k par, t_k h a t = some k → in_par h a k par → zz_Z p l e { frames := 7, cells := 3, slots := 17, locals := 148 } s m args below meth c Q D DA (zz_A h s.heap.size) h 5 43 [some (zz_r 0 (some a)), some (zz_i t), some (zz_r 1 (some k)), some (zz_r 2 par), none] [] (t_h0 h a) 1 6 := by
      intro k par hk hpar
      have hok0 : t_ok (t_h0 h a) a := hwf.1
      have hwf0 : t_wf (t_h0 h a) a := hwf
      refine zz_aload_n (q := 44) (f := 2) (i := 2) C (by decide +kernel) rfl rfl rfl ?_
      refine zz_getI (q := 47) C gf_T_183 (by decide +kernel) rfl (by first | rfl | assumption) rfl ?_
      refine zz_if_eq (off := 22) (tgt := 69) (q := 50) C (by decide +kernel) (by decide) rfl (fun c47 => ?_) (fun c47 => ?_)
      · -- AT 69
        first
          | exact lp69 k par hk hpar (fun z => z.1 c47)
          | exact lp69 k par hk hpar (fun z => zz_b_f c63 z.2)
      · refine zz_aload_n (q := 51) (f := 0) (i := 0) C (by decide +kernel) rfl rfl rfl ?_
        refine zz_getR (q := 54) C gf_T_29 (by decide +kernel) rfl (by first | rfl | assumption) hwf.1.2.2.2.1 ?_
        refine zz_aload_n (q := 55) (f := 2) (i := 2) C (by decide +kernel) rfl rfl rfl ?_
        refine zz_aload_n (q := 56) (f := 3) (i := 3) C (by decide +kernel) rfl rfl rfl ?_
        refine zz_aload_n (q := 57) (f := 0) (i := 0) C (by decide +kernel) rfl rfl rfl ?_
        refine zz_getR (q := 60) C gf_T_15 (by decide +kernel) rfl (by first | rfl | assumption) hwf.1.2.1 ?_
        refine zz_callV (q := 63) C (m_O_hasSibling l) cv_T_187 (by decide +kernel) rfl rfl rfl (by first | rfl | assumption) (by decide) (by decide) (Nat.le_of_ble_eq_true rfl) ⟨_, _, _, _, rfl, hwf.1.2.2.2.2.2.2, hwf0.2.1, hwf.2.2.2.1, hwf.2.2.2.2, ?_⟩
        refine zz_if_eq (off := 6) (tgt := 69) (q := 66) C (by decide +kernel) (by decide) rfl (fun c63 => ?_) (fun c63 => ?_)
        · -- AT 69
          first
            | exact lp69 k par hk hpar (fun z => z.1 c47)
            | exact lp69 k par hk hpar (fun z => zz_b_f c63 z.2)
        · refine zz_bipush (q := 68) (n := -3) (x := (-3)) C (by decide +kernel) rfl (by decide +kernel) ?_
          refine zz_iret C hr hlk (by decide +kernel) hQ (by decide) (by decide) ?_
          exact ((hp k hk).2 par hpar).1 ⟨c47, zz_b_t c63⟩
    refine zz_aload_n (q := 1) (f := 0) (i := 0) C (by decide +kernel) rfl rfl rfl ?_
    refine zz_null (q := 2) C 2 (by decide +kernel) rfl ?_
    refine zz_putR (q := 5) C gf_T_40 (fun h => by cases h) (by decide +kernel) rfl (by first | rfl | assumption) ?_
    show zz_Z p l e _ s m args below meth c Q D DA (zz_A h s.heap.size) h _ _ _ _ (t_h0 h a) 0 0
    have hok0 : t_ok (t_h0 h a) a := hwf.1
    have hwf0 : t_wf (t_h0 h a) a := hwf
    refine zz_aload_n (q := 6) (f := 0) (i := 0) C (by decide +kernel) rfl rfl rfl ?_
    refine zz_iload_n (q := 7) (f := 1) (i := 1) C (by decide +kernel) rfl rfl rfl ?_
    rcases opt_em (t_k h a t) with tc7 | ⟨tk7, tc7⟩
    · exact False.elim (hpX tc7)
    refine zz_callV (q := 10) C (m_T_declaredKind l) cv_T_78 (by decide +kernel) rfl rfl rfl (by first | rfl | assumption) (by decide) (by decide) (Nat.le_of_ble_eq_true rfl) ⟨_, _, rfl, hok0, fun z => absurd (tc7.symm.trans z) (Option.some_ne_none _), fun k9 hk9 => ?_⟩
    obtain rfl := Option.some.inj (tc7.symm.trans hk9)
    refine zz_astore_n (q := 11) (f := 2) (i := 2) C (by decide +kernel) rfl rfl (by decide) rfl ?_
    refine zz_know (fun hty _ hTL _ => ?_)
    obtain ⟨nk, htk⟩ := hTL 2 _ rfl _ rfl
    refine zz_null (q := 12) C 2 (by decide +kernel) rfl ?_
    refine zz_astore_n (q := 13) (f := 3) (i := 3) C (by decide +kernel) rfl rfl (by decide) rfl ?_
    refine zz_aload_n (q := 14) (f := 2) (i := 2) C (by decide +kernel) rfl rfl rfl ?_
    refine zz_getR (q := 17) C gf_T_103 (by decide +kernel) rfl (by first | rfl | assumption) rfl ?_
    refine zz_ifnull (off := 26) (tgt := 43) (q := 20) C (by decide +kernel) (by decide) rfl (fun c17 => ?_) (fun a17 c17 => ?_)
    · -- AT 43
      first
        | exact lp43 tk7 none tc7 (Or.inl ⟨c17, rfl⟩)
        | exact lp43 tk7 _ tc7 (Or.inr ⟨a17, lv + 1, a37, c17, by omega, hlv2, c37 ▸ hr9, c37⟩)
    · obtain ⟨npk, htpk⟩ := hty.1 _ 1 nk 1 1 htk (by decide) rfl _ c17
      obtain ⟨lv, hlv1, hlv2⟩ := hlv a17 npk htpk
      refine zz_aload_n (q := 21) (f := 0) (i := 0) C (by decide +kernel) rfl rfl rfl ?_
      refine zz_getR (q := 24) C gf_T_29 (by decide +kernel) rfl (by first | rfl | assumption) hwf.1.2.2.2.1 ?_
      refine zz_aload_n (q := 25) (f := 2) (i := 2) C (by decide +kernel) rfl rfl rfl ?_
      refine zz_getR (q := 28) C gf_T_103 (by decide +kernel) rfl (by first | rfl | assumption) c17 ?_
      refine zz_aload_n (q := 29) (f := 0) (i := 0) C (by decide +kernel) rfl rfl rfl ?_
      refine zz_getR (q := 32) C gf_T_22 (by decide +kernel) rfl (by first | rfl | assumption) hwf.1.2.2.1 ?_
      refine zz_callV (q := 35) C (m_O_firstParent l) cv_T_179 (by decide +kernel) rfl rfl rfl (by first | rfl | assumption) (by decide) (by decide) (Nat.le_of_ble_eq_true rfl) ⟨_, _, _, lv + 1, rfl, by omega, hlv2, hwf0.2.1, hwf0.2.2.1, hwf.2.2.2.1, fun r hr9 => ?_⟩
      refine zz_astore_n (q := 36) (f := 3) (i := 3) C (by decide +kernel) rfl rfl (by decide) rfl ?_
      refine zz_aload_n (q := 37) (f := 3) (i := 3) C (by decide +kernel) rfl rfl rfl ?_
      refine zz_ifnonnull (off := 6) (tgt := 43) (q := 40) C (by decide +kernel) (by decide) rfl (fun a37 c37 => ?_) (fun c37 => ?_)
      · -- AT 43
        first
          | exact lp43 tk7 none tc7 (Or.inl ⟨c17, rfl⟩)
          | exact lp43 tk7 _ tc7 (Or.inr ⟨a17, lv + 1, a37, c17, by omega, hlv2, c37 ▸ hr9, c37⟩)
      · refine zz_bipush (q := 42) (n := -2) (x := (-2)) C (by decide +kernel) rfl (by decide +kernel) ?_
        refine zz_iret C hr hlk (by decide +kernel) hQ (by decide) (by decide) ?_
        exact (hp _ tc7).1 ⟨a17, lv + 1, c17, by omega, hlv2, c37 ▸ hr9⟩
set_option maxRecDepth 100000 in
set_option maxHeartbeats 4000000 in
theorem x_T_insert (l : Launch) (hl : l.stackTraces = false) : zz_MetX l y_T_insert w_T_insert { frames := 7, cells := 3, slots := 17, locals := 148 } (fun as h postX => B_T_insert as h (fun _ _ => False) postX) := by
  refine zz_ofX hl (by decide) (fun as h postX hT => ?_) ?_
  · obtain ⟨a, t, rfl, hwf, hob, hsw, hlv, hpX, hp⟩ := hT
    exact ⟨by simp [zz_cat], by simp⟩
  · intro D DA h as postX hT p e s m args below meth c Q C hx hnm hQ
    obtain ⟨a, t, rfl, hwf, hob, hsw, hlv, hpX, hp⟩ := hT
    have lp69 : ∀ k par, t_k h a t = some k → in_par h a k par → ¬ in_dup h a k par → zz_Z p l e { frames := 7, cells := 3, slots := 17, locals := 148 } s m args below meth c Q D DA (zz_A h s.heap.size) h 5 69 [some (zz_r 0 (some a)), some (zz_i t), some (zz_r 1 (some k)), some (zz_r 2 par), none] [] (t_h0 h a) 1 6 := by
      intro k par hk hpar hnd
      have hok0 : t_ok (t_h0 h a) a := hwf.1
      have hwf0 : t_wf (t_h0 h a) a := hwf
      refine zz_know (fun hty _ hTL _ => ?_)
      obtain ⟨nk, htk⟩ := hTL 2 _ rfl _ rfl
      refine zz_aload_n (q := 70) (f := 0) (i := 0) C (by decide +kernel) rfl rfl rfl ?_
      refine zz_getR (q := 73) C gf_T_29 (by decide +kernel) rfl (by first | rfl | assumption) hwf.1.2.2.2.1 ?_
      refine zz_getI (q := 76) C gf_T_191 (by decide +kernel) rfl (by first | rfl | assumption) hwf.2.1.1.2.2.2.2.2.2 ?_
      refine zz_bipush (q := 78) (n := 60) (x := 60) C (by decide +kernel) rfl (by decide +kernel) ?_
      refine zz_icmp_lt (off := 6) (tgt := 84) (q := 81) C (by decide +kernel) (by decide) rfl (fun c78 => ?_) (fun c78 => ?_)
      · have hb60 := hwf.2.1.1.2.2.2.2.2.1
        have hs60 : or_s h (t_od h a) < 60 := (nI_ltI (by omega) (by decide)).mp c78
        refine zz_aload_n (q := 85) (f := 0) (i := 0) C (by decide +kernel) rfl rfl rfl ?_
        refine zz_dup (q := 86) C (by decide +kernel) rfl rfl ?_
        refine zz_getI (q := 89) C gf_T_194 (by decide +kernel) rfl (by first | rfl | assumption) rfl ?_
        refine zz_iconst (q := 90) (n := 1) (x := 1) C (by decide +kernel) rfl (by decide +kernel) ?_
        refine zz_iadd (q := 91) C (by decide +kernel) rfl rfl ?_
        refine zz_putI (q := 94) C gf_T_194 (fun h => by cases h) (fun h => by cases h) (by decide +kernel) rfl (by first | rfl | assumption) ?_
        refine zz_newO (q := 97) (ci := 2) C rfl kl_T_157 ni_S nj_S (by decide +kernel) rfl (by decide) (by decide) (fun a94 n94 => ?_)
        refine zz_dup (q := 98) C (by decide +kernel) rfl rfl ?_
        refine zz_aload_n (q := 99) (f := 0) (i := 0) C (by decide +kernel) rfl rfl rfl ?_
        refine zz_getI (q := 102) C gf_T_194 (by decide +kernel) rfl (by first | rfl | assumption) (in_num _ _ _ _) ?_
        refine zz_aload_n (q := 103) (f := 2) (i := 2) C (by decide +kernel) rfl rfl rfl ?_
        refine zz_aload_n (q := 104) (f := 3) (i := 3) C (by decide +kernel) rfl rfl rfl ?_
        refine zz_callI (q := 107) C (m_S_init l) ci_T_197 (by decide +kernel) rfl rfl rfl (by first | rfl | assumption) (by decide) (by decide) (Nat.le_of_ble_eq_true rfl) ⟨_, _, _, _, rfl, fun wd hwd => ?_⟩
        show zz_Z p l e _ s m args below meth c Q D DA (zz_A h s.heap.size) h _ _ _ _ (in_h3 h a a94 wd k par) _ _
        have n94 : zz_tg h a94 = none := n94
        have hwd : zz_tg (zz_new h 2 a94) wd = none := hwd
        have ek : sg_k (in_h3 h a a94 wd k par) a94 = k := by rw [sg_k, in_f1]; rfl
        have hkk : kd_ok (in_h3 h a a94 wd k par) (sg_k (in_h3 h a a94 wd k par) a94) := by rw [ek]; exact hwf.2.2.2.2 k nk htk
        have tok3 := in_tok (k := k) (par := par) n94 hwd hwf.1
        have wf3 := in_wf (a := a) (k := k) (par := par) n94 hwd hwf.2.2.2.1
        have kw3 := in_kw (a := a) (f := a94) (wd := wd) (k := k) (par := par) hwf.2.2.2.2
        have okN3 := in_okN (a := a) (k := k) (par := par) n94 hwd hwf.2.1
        have okB3 := in_okB (a := a) (k := k) (par := par) n94 hwd hob
        refine zz_astore (q := 109) (i := 4) C (by decide +kernel) rfl (by decide) rfl ?_
        refine zz_aload (q := 111) (i := 4) C (by decide +kernel) rfl rfl ?_
        refine zz_aload_n (q := 112) (f := 0) (i := 0) C (by decide +kernel) rfl rfl rfl ?_
        refine zz_getR (q := 115) C gf_T_15 (by decide +kernel) rfl (by first | rfl | assumption) hwf.1.2.1 ?_
        refine zz_callV (q := 118) C (m_S_takeWords l) cv_T_200 (by decide +kernel) rfl rfl rfl (by first | rfl | assumption) (by decide) (by decide) (Nat.le_of_ble_eq_true rfl) ⟨_, _, rfl, in_okf, hkk, tok3.2.2.2.2.2.2, ?_⟩
        show zz_Z p l e _ s m args below meth c Q D DA (zz_A h s.heap.size) h _ _ _ _ (in_h4 h a a94 wd k par) _ _
        refine zz_aload_n (q := 119) (f := 0) (i := 0) C (by decide +kernel) rfl rfl rfl ?_
        refine zz_aload (q := 121) (i := 4) C (by decide +kernel) rfl rfl ?_
        refine zz_callV (q := 124) C (m_T_joinTwin l) cv_T_204 (by decide +kernel) rfl rfl rfl (by first | rfl | assumption) (by decide) (by decide) (Nat.le_of_ble_eq_true rfl) ⟨_, _, rfl, tok3, okN3, wf3, kw3, fun r hr9 => ⟨fun z => ?_, fun s9 z => ?_⟩⟩
        · subst z
          have sm5 : zz_fI (in_h4 h a a94 wd k par) 2 0 a94 = zz_fI h 0 7 a + 1 := in_f0 (k := k) (par := par)
          refine zz_aload_n (q := 125) (f := 0) (i := 0) C (by decide +kernel) rfl rfl rfl ?_
          refine zz_getR (q := 128) C gf_T_29 (by decide +kernel) rfl (by first | rfl | assumption) hwf.1.2.2.2.1 ?_
          refine zz_aload (q := 130) (i := 4) C (by decide +kernel) rfl rfl ?_
          refine zz_callV (q := 133) C (m_O_enter l) cv_T_208 (by decide +kernel) rfl rfl rfl (by first | rfl | assumption) (by decide) (by decide) (Nat.le_of_ble_eq_true rfl) ⟨_, _, rfl, okB3, hs60, wf3, kw3, hsw, fun to h6 e1 e2 => ?_⟩
          have sm6 := or_sm_tr (or_is_sm _ _ _ _) (or_sm_arr e2).1
          have hps : zz_fR h6 0 4 a = some (t_ps h a) := (sm6.2.2.2.1 0 4 a (by decide)).trans hwf.1.2.2.2.2.1
          have hnb : zz_fI h6 2 0 a94 = zz_fI h 0 7 a + 1 := (sm6.2.1 2 0 a94 (by decide) (by decide)).trans sm5
          refine zz_aload_n (q := 134) (f := 0) (i := 0) C (by decide +kernel) rfl rfl rfl ?_
          refine zz_getR (q := 137) C gf_T_36 (by decide +kernel) rfl (by first | rfl | assumption) hps ?_
          refine zz_aload (q := 139) (i := 4) C (by decide +kernel) rfl rfl ?_
          refine zz_callV (q := 142) C (m_Q_standAt l) cv_T_211 (by decide +kernel) rfl rfl rfl (by first | rfl | assumption) (by decide) (by decide) (Nat.le_of_ble_eq_true rfl) ⟨_, _, rfl, ?_⟩
          refine zz_aload (q := 144) (i := 4) C (by decide +kernel) rfl rfl ?_
          refine zz_getI (q := 147) C gf_T_156 (by decide +kernel) rfl (by first | rfl | assumption) hnb ?_
          exfalso
          exact ((hp k hk).2 par hpar).2 hnd |>.2 hs60 a94 wd none to h6 n94 hwd hr9 e1 e2
        · subst z
          show zz_Z p l e _ s m args below meth c Q D DA (zz_A h s.heap.size) h _ _ _ _ (t_jn (in_h4 h a a94 wd k par) a a94 s9) _ _
          have sm5 : zz_fI (t_jn (in_h4 h a a94 wd k par) a a94 s9) 2 0 a94 = zz_fI h 0 7 a + 1 := in_f0 (k := k) (par := par)
          refine zz_aload_n (q := 125) (f := 0) (i := 0) C (by decide +kernel) rfl rfl rfl ?_
          refine zz_getR (q := 128) C gf_T_29 (by decide +kernel) rfl (by first | rfl | assumption) hwf.1.2.2.2.1 ?_
          refine zz_aload (q := 130) (i := 4) C (by decide +kernel) rfl rfl ?_
          refine zz_callV (q := 133) C (m_O_enter l) cv_T_208 (by decide +kernel) rfl rfl rfl (by first | rfl | assumption) (by decide) (by decide) (Nat.le_of_ble_eq_true rfl) ⟨_, _, rfl, okB3, hs60, wf3, kw3, hsw, fun to h6 e1 e2 => ?_⟩
          have sm6 := or_sm_tr (or_is_sm _ _ _ _) (or_sm_arr e2).1
          have hps : zz_fR h6 0 4 a = some (t_ps h a) := (sm6.2.2.2.1 0 4 a (by decide)).trans hwf.1.2.2.2.2.1
          have hnb : zz_fI h6 2 0 a94 = zz_fI h 0 7 a + 1 := (sm6.2.1 2 0 a94 (by decide) (by decide)).trans sm5
          refine zz_aload_n (q := 134) (f := 0) (i := 0) C (by decide +kernel) rfl rfl rfl ?_
          refine zz_getR (q := 137) C gf_T_36 (by decide +kernel) rfl (by first | rfl | assumption) hps ?_
          refine zz_aload (q := 139) (i := 4) C (by decide +kernel) rfl rfl ?_
          refine zz_callV (q := 142) C (m_Q_standAt l) cv_T_211 (by decide +kernel) rfl rfl rfl (by first | rfl | assumption) (by decide) (by decide) (Nat.le_of_ble_eq_true rfl) ⟨_, _, rfl, ?_⟩
          refine zz_aload (q := 144) (i := 4) C (by decide +kernel) rfl rfl ?_
          refine zz_getI (q := 147) C gf_T_156 (by decide +kernel) rfl (by first | rfl | assumption) hnb ?_
          exfalso
          exact ((hp k hk).2 par hpar).2 hnd |>.2 hs60 a94 wd (some s9) to h6 n94 hwd hr9 e1 e2
      · refine zz_bipush (q := 83) (n := -4) (x := (-4)) C (by decide +kernel) rfl (by decide +kernel) ?_
        exfalso
        exact (((hp k hk).2 par hpar).2 hnd).1 (Nat.le_of_not_lt (fun z => c78 (nI_lt (b := 60) z (by decide))))
    have lp43 : ∀ k par, t_k h a t = some k → in_par h a k par → zz_Z p l e { frames := 7, cells := 3, slots := 17, locals := 148 } s m args below meth c Q D DA (zz_A h s.heap.size) h 5 43 [some (zz_r 0 (some a)), some (zz_i t), some (zz_r 1 (some k)), some (zz_r 2 par), none] [] (t_h0 h a) 1 6 := by
      intro k par hk hpar
      have hok0 : t_ok (t_h0 h a) a := hwf.1
      have hwf0 : t_wf (t_h0 h a) a := hwf
      refine zz_aload_n (q := 44) (f := 2) (i := 2) C (by decide +kernel) rfl rfl rfl ?_
      refine zz_getI (q := 47) C gf_T_183 (by decide +kernel) rfl (by first | rfl | assumption) rfl ?_
      refine zz_if_eq (off := 22) (tgt := 69) (q := 50) C (by decide +kernel) (by decide) rfl (fun c47 => ?_) (fun c47 => ?_)
      · -- AT 69
        first
          | exact lp69 k par hk hpar (fun z => z.1 c47)
          | exact lp69 k par hk hpar (fun z => zz_b_f c63 z.2)
      · refine zz_aload_n (q := 51) (f := 0) (i := 0) C (by decide +kernel) rfl rfl rfl ?_
        refine zz_getR (q := 54) C gf_T_29 (by decide +kernel) rfl (by first | rfl | assumption) hwf.1.2.2.2.1 ?_
        refine zz_aload_n (q := 55) (f := 2) (i := 2) C (by decide +kernel) rfl rfl rfl ?_
        refine zz_aload_n (q := 56) (f := 3) (i := 3) C (by decide +kernel) rfl rfl rfl ?_
        refine zz_aload_n (q := 57) (f := 0) (i := 0) C (by decide +kernel) rfl rfl rfl ?_
        refine zz_getR (q := 60) C gf_T_15 (by decide +kernel) rfl (by first | rfl | assumption) hwf.1.2.1 ?_
        refine zz_callV (q := 63) C (m_O_hasSibling l) cv_T_187 (by decide +kernel) rfl rfl rfl (by first | rfl | assumption) (by decide) (by decide) (Nat.le_of_ble_eq_true rfl) ⟨_, _, _, _, rfl, hwf.1.2.2.2.2.2.2, hwf0.2.1, hwf.2.2.2.1, hwf.2.2.2.2, ?_⟩
        refine zz_if_eq (off := 6) (tgt := 69) (q := 66) C (by decide +kernel) (by decide) rfl (fun c63 => ?_) (fun c63 => ?_)
        · -- AT 69
          first
            | exact lp69 k par hk hpar (fun z => z.1 c47)
            | exact lp69 k par hk hpar (fun z => zz_b_f c63 z.2)
        · refine zz_bipush (q := 68) (n := -3) (x := (-3)) C (by decide +kernel) rfl (by decide +kernel) ?_
          exfalso
          exact ((hp k hk).2 par hpar).1 ⟨c47, zz_b_t c63⟩
    refine zz_aload_n (q := 1) (f := 0) (i := 0) C (by decide +kernel) rfl rfl rfl ?_
    refine zz_null (q := 2) C 2 (by decide +kernel) rfl ?_
    refine zz_putR (q := 5) C gf_T_40 (fun h => by cases h) (by decide +kernel) rfl (by first | rfl | assumption) ?_
    show zz_Z p l e _ s m args below meth c Q D DA (zz_A h s.heap.size) h _ _ _ _ (t_h0 h a) 0 0
    have hok0 : t_ok (t_h0 h a) a := hwf.1
    have hwf0 : t_wf (t_h0 h a) a := hwf
    refine zz_aload_n (q := 6) (f := 0) (i := 0) C (by decide +kernel) rfl rfl rfl ?_
    refine zz_iload_n (q := 7) (f := 1) (i := 1) C (by decide +kernel) rfl rfl rfl ?_
    rcases opt_em (t_k h a t) with tc7 | ⟨tk7, tc7⟩
    · exact zz_callVX C hx (x_T_declaredKind l hl) cv_T_78 (by decide +kernel) rfl rfl (by first | rfl | assumption) (by decide) (by decide) (Nat.le_of_ble_eq_true rfl) hQ (by decide) (by decide) ⟨_, _, rfl, hok0, fun _ => (hpX tc7), fun k9 hk9 => absurd (hk9.symm.trans tc7) (Option.some_ne_none k9)⟩
    refine zz_callV (q := 10) C (m_T_declaredKind l) cv_T_78 (by decide +kernel) rfl rfl rfl (by first | rfl | assumption) (by decide) (by decide) (Nat.le_of_ble_eq_true rfl) ⟨_, _, rfl, hok0, fun z => absurd (tc7.symm.trans z) (Option.some_ne_none _), fun k9 hk9 => ?_⟩
    obtain rfl := Option.some.inj (tc7.symm.trans hk9)
    refine zz_astore_n (q := 11) (f := 2) (i := 2) C (by decide +kernel) rfl rfl (by decide) rfl ?_
    refine zz_know (fun hty _ hTL _ => ?_)
    obtain ⟨nk, htk⟩ := hTL 2 _ rfl _ rfl
    refine zz_null (q := 12) C 2 (by decide +kernel) rfl ?_
    refine zz_astore_n (q := 13) (f := 3) (i := 3) C (by decide +kernel) rfl rfl (by decide) rfl ?_
    refine zz_aload_n (q := 14) (f := 2) (i := 2) C (by decide +kernel) rfl rfl rfl ?_
    refine zz_getR (q := 17) C gf_T_103 (by decide +kernel) rfl (by first | rfl | assumption) rfl ?_
    refine zz_ifnull (off := 26) (tgt := 43) (q := 20) C (by decide +kernel) (by decide) rfl (fun c17 => ?_) (fun a17 c17 => ?_)
    · -- AT 43
      first
        | exact lp43 tk7 none tc7 (Or.inl ⟨c17, rfl⟩)
        | exact lp43 tk7 _ tc7 (Or.inr ⟨a17, lv + 1, a37, c17, by omega, hlv2, c37 ▸ hr9, c37⟩)
    · obtain ⟨npk, htpk⟩ := hty.1 _ 1 nk 1 1 htk (by decide) rfl _ c17
      obtain ⟨lv, hlv1, hlv2⟩ := hlv a17 npk htpk
      refine zz_aload_n (q := 21) (f := 0) (i := 0) C (by decide +kernel) rfl rfl rfl ?_
      refine zz_getR (q := 24) C gf_T_29 (by decide +kernel) rfl (by first | rfl | assumption) hwf.1.2.2.2.1 ?_
      refine zz_aload_n (q := 25) (f := 2) (i := 2) C (by decide +kernel) rfl rfl rfl ?_
      refine zz_getR (q := 28) C gf_T_103 (by decide +kernel) rfl (by first | rfl | assumption) c17 ?_
      refine zz_aload_n (q := 29) (f := 0) (i := 0) C (by decide +kernel) rfl rfl rfl ?_
      refine zz_getR (q := 32) C gf_T_22 (by decide +kernel) rfl (by first | rfl | assumption) hwf.1.2.2.1 ?_
      refine zz_callV (q := 35) C (m_O_firstParent l) cv_T_179 (by decide +kernel) rfl rfl rfl (by first | rfl | assumption) (by decide) (by decide) (Nat.le_of_ble_eq_true rfl) ⟨_, _, _, lv + 1, rfl, by omega, hlv2, hwf0.2.1, hwf0.2.2.1, hwf.2.2.2.1, fun r hr9 => ?_⟩
      refine zz_astore_n (q := 36) (f := 3) (i := 3) C (by decide +kernel) rfl rfl (by decide) rfl ?_
      refine zz_aload_n (q := 37) (f := 3) (i := 3) C (by decide +kernel) rfl rfl rfl ?_
      refine zz_ifnonnull (off := 6) (tgt := 43) (q := 40) C (by decide +kernel) (by decide) rfl (fun a37 c37 => ?_) (fun c37 => ?_)
      · -- AT 43
        first
          | exact lp43 tk7 none tc7 (Or.inl ⟨c17, rfl⟩)
          | exact lp43 tk7 _ tc7 (Or.inr ⟨a17, lv + 1, a37, c17, by omega, hlv2, c37 ▸ hr9, c37⟩)
      · refine zz_bipush (q := 42) (n := -2) (x := (-2)) C (by decide +kernel) rfl (by decide +kernel) ?_
        exfalso
        exact (hp _ tc7).1 ⟨a17, lv + 1, c17, by omega, hlv2, c37 ▸ hr9⟩
end
section
/-! the reference -/
def mo_sz (j : Nat) : Option (Nat × Nat) := match j with
  | 1 => some (91, 8)
  | 2 => some (90, 8)
  | 3 => some (90, 8)
  | 4 => some (90, 8)
  | 5 => some (90, 8)
  | 6 => some (91, 8)
  | 7 => some (91, 8)
  | 8 => some (90, 8)
  | 14 => some (90, 60)
  | 15 => some (90, 60)
  | 16 => some (90, 60)
  | 17 => some (90, 60)
  | 18 => some (90, 240)
  | 19 => some (90, 60)
  | 20 => some (92, 60)
  | 21 => some (91, 60)
  | 22 => some (90, 5)
  | 23 => some (90, 5)
  | 24 => some (90, 15)
  | 25 => some (90, 15)
  | 26 => some (90, 15)
  | 27 => some (90, 4)
  | _ => none
/-- the array of a field -/
def mf (h : zz_H) (r j : Nat) : Nat := (zz_fR h 7 j r).getD 0
def ma (h : zz_H) (r j i : Nat) : Int32 := zz_aI h (mf h r j) i
def mo_ok (h : zz_H) (r : Nat) : Prop := ∀ j ty n, mo_sz j = some (ty, n) → zz_fR h 7 j r = some (mf h r j) ∧ zz_tg h (mf h r j) = some (ty, n)
def mo_bg (h : zz_H) (r : Nat) : zz_H := zz_pI (zz_pI h 7 0 r 0) 7 30 r (-1)
def mo_ty (h : zz_H) (r : Nat) (t : Int32) : Prop := 0 ≤ t ∧ t < 8 ∧ ma h r 1 t.toNatClampNeg ≠ 0
def mo_hw (h : zz_H) (r : Nat) (t i : Int32) : Prop := 0 ≤ i ∧ i < ma h r 4 t.toNatClampNeg
theorem nI_tn {t : Int32} {k : Nat} (hk : k < 2 ^ 31) (e : t = nI k) : t.toNatClampNeg = k := by rw [e]; exact nI_clamp hk
theorem nI_lt9 {t : Int32} {k n : Nat} (hn : n < 2 ^ 31) (hk : k < n) (e : t = nI k) : t.toNatClampNeg < n ∧ t = nI t.toNatClampNeg := by
  rw [nI_tn (by omega) e]; exact ⟨hk, e⟩
def T_M_begin : zz_Tr := fun as h post => ∃ r, as = [zz_r 7 (some r)] ∧ post none (mo_bg h r)
set_option maxRecDepth 100000 in
set_option maxHeartbeats 4000000 in
theorem m_M_begin (l : Launch) : zz_Met l y_M_begin w_M_begin { frames := 1, cells := 0, slots := 0, locals := 12 } T_M_begin := by
  refine zz_ofZ (by decide) (fun as h post hT => ?_) ?_
  · obtain ⟨r, rfl, hp⟩ := hT
    exact ⟨by simp [zz_cat], by simp⟩
  · intro D DA h as post hT p e s m args below meth c Q C hr hlk hnm hQ
    obtain ⟨r, rfl, hp⟩ := hT
    refine zz_aload_n (q := 1) (f := 0) (i := 0) C (by decide +kernel) rfl rfl rfl ?_
    refine zz_iconst (q := 2) (n := 0) (x := 0) C (by decide +kernel) rfl (by decide +kernel) ?_
    refine zz_putI (q := 5) C gf_M_88 (fun h => by cases h) (fun h => by cases h) (by decide +kernel) rfl (by first | rfl | assumption) ?_
    refine zz_aload_n (q := 6) (f := 0) (i := 0) C (by decide +kernel) rfl rfl rfl ?_
    refine zz_iconst (q := 7) (n := -1) (x := (-1)) C (by decide +kernel) rfl (by decide +kernel) ?_
    refine zz_putI (q := 10) C gf_M_82 (fun h => by cases h) (fun h => by cases h) (by decide +kernel) rfl (by first | rfl | assumption) ?_
    refine zz_vret C hr hlk (by decide +kernel) hQ (by decide) (by decide) ?_
    exact hp

def T_M_refuse : zz_Tr := fun as h post => ∃ r x, as = [zz_r 7 (some r), zz_i x] ∧ post (some (zz_i 0)) (zz_pI h 7 0 r x)
set_option maxRecDepth 100000 in
set_option maxHeartbeats 4000000 in
theorem m_M_refuse (l : Launch) : zz_Met l y_M_refuse w_M_refuse { frames := 1, cells := 0, slots := 0, locals := 12 } T_M_refuse := by
  refine zz_ofZ (by decide) (fun as h post hT => ?_) ?_
  · obtain ⟨r, x, rfl, hp⟩ := hT
    exact ⟨by simp [zz_cat], by simp⟩
  · intro D DA h as post hT p e s m args below meth c Q C hr hlk hnm hQ
    obtain ⟨r, x, rfl, hp⟩ := hT
    refine zz_aload_n (q := 1) (f := 0) (i := 0) C (by decide +kernel) rfl rfl rfl ?_
    refine zz_iload_n (q := 2) (f := 1) (i := 1) C (by decide +kernel) rfl rfl rfl ?_
    refine zz_putI (q := 5) C gf_M_88 (fun h => by cases h) (fun h => by cases h) (by decide +kernel) rfl (by first | rfl | assumption) ?_
    refine zz_iconst (q := 6) (n := 0) (x := 0) C (by decide +kernel) rfl (by decide +kernel) ?_
    refine zz_iret C hr hlk (by decide +kernel) hQ (by decide) (by decide) ?_
    exact hp

def T_M_thrown : zz_Tr := fun as h post => ∃ r, as = [zz_r 7 (some r)] ∧ post (some (zz_i (zz_fI h 7 0 r))) h
set_option maxRecDepth 100000 in
set_option maxHeartbeats 4000000 in
theorem m_M_thrown (l : Launch) : zz_Met l y_M_thrown w_M_thrown { frames := 1, cells := 0, slots := 0, locals := 12 } T_M_thrown := by
  refine zz_ofZ (by decide) (fun as h post hT => ?_) ?_
  · obtain ⟨r, rfl, hp⟩ := hT
    exact ⟨by simp [zz_cat], by simp⟩
  · intro D DA h as post hT p e s m args below meth c Q C hr hlk hnm hQ
    obtain ⟨r, rfl, hp⟩ := hT
    refine zz_aload_n (q := 1) (f := 0) (i := 0) C (by decide +kernel) rfl rfl rfl ?_
    refine zz_getI (q := 4) C gf_M_88 (by decide +kernel) rfl (by first | rfl | assumption) rfl ?_
    refine zz_iret C hr hlk (by decide +kernel) hQ (by decide) (by decide) ?_
    exact hp

def T_M_holds : zz_Tr := fun as h post => ∃ q x y, as = [zz_i q, zz_i x, zz_i y] ∧ post (some (zz_i (zz_b (pl_cmp q x y)))) h
set_option maxRecDepth 100000 in
set_option maxHeartbeats 4000000 in
theorem m_M_holds (l : Launch) : zz_Met l y_M_holds w_M_holds { frames := 1, cells := 0, slots := 0, locals := 12 } T_M_holds := by
  refine zz_ofZ (by decide) (fun as h post hT => ?_) ?_
  · obtain ⟨q, x, y, rfl, hp⟩ := hT
    exact ⟨by simp [zz_cat], by simp⟩
  · intro D DA h as post hT p e s m args below meth c Q C hr hlk hnm hQ
    obtain ⟨q, x, y, rfl, hp⟩ := hT
    refine zz_iload_n (q := 1) (f := 0) (i := 0) C (by decide +kernel) rfl rfl rfl ?_
    rcases (zz_sw_1_5 q) with hsw | hsw | hsw | hsw | hsw | hsw
    · refine zz_tableIn (dflt := 90) (lo := 1) (hi := 5) (offs := #[35, 46, 57, 68, 79]) (len := 35) (off := 35) (tgt := 36) C (by decide +kernel) (by rw [hsw]; decide) (by rw [hsw]; decide) (by rw [hsw]; rfl) (by decide) ?_
      refine zz_iload_n (q := 37) (f := 1) (i := 1) C (by decide +kernel) rfl rfl rfl ?_
      refine zz_iload_n (q := 38) (f := 2) (i := 2) C (by decide +kernel) rfl rfl rfl ?_
      refine zz_icmp_ne (off := 7) (tgt := 45) (q := 41) C (by decide +kernel) (by decide) rfl (fun c38 => ?_) (fun c38 => ?_)
      · refine zz_iconst (q := 46) (n := 0) (x := 0) C (by decide +kernel) rfl (by decide +kernel) ?_
        refine zz_zret C hr hlk (by decide +kernel) (by decide) hQ (by decide) (by decide) ?_
        have e : pl_cmp q x y ↔ x = y := by simp [pl_cmp, hsw]
        first | exact zz_rT hp c38 e | exact zz_rT hp (Int32.not_le.mp c38) e | exact zz_rT hp (Int32.not_lt.mp c38) e | exact zz_rF hp c38 e | exact zz_rF hp (Int32.not_lt.mpr c38) e | exact zz_rF hp (Int32.not_le.mpr c38) e | exact zz_rF hp (fun z => z c38) e
      · refine zz_iconst (q := 42) (n := 1) (x := 1) C (by decide +kernel) rfl (by decide +kernel) ?_
        refine zz_goto (off := 4) (tgt := 46) C (by decide +kernel) (by decide) ?_
        refine zz_zret C hr hlk (by decide +kernel) (by decide) hQ (by decide) (by decide) ?_
        have e : pl_cmp q x y ↔ x = y := by simp [pl_cmp, hsw]
        first | exact zz_rT hp c38 e | exact zz_rT hp (Int32.not_le.mp c38) e | exact zz_rT hp (Int32.not_lt.mp c38) e | exact zz_rF hp c38 e | exact zz_rF hp (Int32.not_lt.mpr c38) e | exact zz_rF hp (Int32.not_le.mpr c38) e | exact zz_rF hp (fun z => z c38) e
    · refine zz_tableIn (dflt := 90) (lo := 1) (hi := 5) (offs := #[35, 46, 57, 68, 79]) (len := 35) (off := 46) (tgt := 47) C (by decide +kernel) (by rw [hsw]; decide) (by rw [hsw]; decide) (by rw [hsw]; rfl) (by decide) ?_
      refine zz_iload_n (q := 48) (f := 1) (i := 1) C (by decide +kernel) rfl rfl rfl ?_
      refine zz_iload_n (q := 49) (f := 2) (i := 2) C (by decide +kernel) rfl rfl rfl ?_
      refine zz_icmp_eq (off := 7) (tgt := 56) (q := 52) C (by decide +kernel) (by decide) rfl (fun c49 => ?_) (fun c49 => ?_)
      · refine zz_iconst (q := 57) (n := 0) (x := 0) C (by decide +kernel) rfl (by decide +kernel) ?_
        refine zz_zret C hr hlk (by decide +kernel) (by decide) hQ (by decide) (by decide) ?_
        have e : pl_cmp q x y ↔ x ≠ y := by simp [pl_cmp, hsw]
        first | exact zz_rT hp c49 e | exact zz_rT hp (Int32.not_le.mp c49) e | exact zz_rT hp (Int32.not_lt.mp c49) e | exact zz_rF hp c49 e | exact zz_rF hp (Int32.not_lt.mpr c49) e | exact zz_rF hp (Int32.not_le.mpr c49) e | exact zz_rF hp (fun z => z c49) e
      · refine zz_iconst (q := 53) (n := 1) (x := 1) C (by decide +kernel) rfl (by decide +kernel) ?_
        refine zz_goto (off := 4) (tgt := 57) C (by decide +kernel) (by decide) ?_
        refine zz_zret C hr hlk (by decide +kernel) (by decide) hQ (by decide) (by decide) ?_
        have e : pl_cmp q x y ↔ x ≠ y := by simp [pl_cmp, hsw]
        first | exact zz_rT hp c49 e | exact zz_rT hp (Int32.not_le.mp c49) e | exact zz_rT hp (Int32.not_lt.mp c49) e | exact zz_rF hp c49 e | exact zz_rF hp (Int32.not_lt.mpr c49) e | exact zz_rF hp (Int32.not_le.mpr c49) e | exact zz_rF hp (fun z => z c49) e
    · refine zz_tableIn (dflt := 90) (lo := 1) (hi := 5) (offs := #[35, 46, 57, 68, 79]) (len := 35) (off := 57) (tgt := 58) C (by decide +kernel) (by rw [hsw]; decide) (by rw [hsw]; decide) (by rw [hsw]; rfl) (by decide) ?_
      refine zz_iload_n (q := 59) (f := 1) (i := 1) C (by decide +kernel) rfl rfl rfl ?_
      refine zz_iload_n (q := 60) (f := 2) (i := 2) C (by decide +kernel) rfl rfl rfl ?_
      refine zz_icmp_ge (off := 7) (tgt := 67) (q := 63) C (by decide +kernel) (by decide) rfl (fun c60 => ?_) (fun c60 => ?_)
      · refine zz_iconst (q := 68) (n := 0) (x := 0) C (by decide +kernel) rfl (by decide +kernel) ?_
        refine zz_zret C hr hlk (by decide +kernel) (by decide) hQ (by decide) (by decide) ?_
        have e : pl_cmp q x y ↔ x < y := by simp [pl_cmp, hsw]
        first | exact zz_rT hp c60 e | exact zz_rT hp (Int32.not_le.mp c60) e | exact zz_rT hp (Int32.not_lt.mp c60) e | exact zz_rF hp c60 e | exact zz_rF hp (Int32.not_lt.mpr c60) e | exact zz_rF hp (Int32.not_le.mpr c60) e | exact zz_rF hp (fun z => z c60) e
      · refine zz_iconst (q := 64) (n := 1) (x := 1) C (by decide +kernel) rfl (by decide +kernel) ?_
        refine zz_goto (off := 4) (tgt := 68) C (by decide +kernel) (by decide) ?_
        refine zz_zret C hr hlk (by decide +kernel) (by decide) hQ (by decide) (by decide) ?_
        have e : pl_cmp q x y ↔ x < y := by simp [pl_cmp, hsw]
        first | exact zz_rT hp c60 e | exact zz_rT hp (Int32.not_le.mp c60) e | exact zz_rT hp (Int32.not_lt.mp c60) e | exact zz_rF hp c60 e | exact zz_rF hp (Int32.not_lt.mpr c60) e | exact zz_rF hp (Int32.not_le.mpr c60) e | exact zz_rF hp (fun z => z c60) e
    · refine zz_tableIn (dflt := 90) (lo := 1) (hi := 5) (offs := #[35, 46, 57, 68, 79]) (len := 35) (off := 68) (tgt := 69) C (by decide +kernel) (by rw [hsw]; decide) (by rw [hsw]; decide) (by rw [hsw]; rfl) (by decide) ?_
      refine zz_iload_n (q := 70) (f := 1) (i := 1) C (by decide +kernel) rfl rfl rfl ?_
      refine zz_iload_n (q := 71) (f := 2) (i := 2) C (by decide +kernel) rfl rfl rfl ?_
      refine zz_icmp_gt (off := 7) (tgt := 78) (q := 74) C (by decide +kernel) (by decide) rfl (fun c71 => ?_) (fun c71 => ?_)
      · refine zz_iconst (q := 79) (n := 0) (x := 0) C (by decide +kernel) rfl (by decide +kernel) ?_
        refine zz_zret C hr hlk (by decide +kernel) (by decide) hQ (by decide) (by decide) ?_
        have e : pl_cmp q x y ↔ x ≤ y := by simp [pl_cmp, hsw]
        first | exact zz_rT hp c71 e | exact zz_rT hp (Int32.not_le.mp c71) e | exact zz_rT hp (Int32.not_lt.mp c71) e | exact zz_rF hp c71 e | exact zz_rF hp (Int32.not_lt.mpr c71) e | exact zz_rF hp (Int32.not_le.mpr c71) e | exact zz_rF hp (fun z => z c71) e
      · refine zz_iconst (q := 75) (n := 1) (x := 1) C (by decide +kernel) rfl (by decide +kernel) ?_
        refine zz_goto (off := 4) (tgt := 79) C (by decide +kernel) (by decide) ?_
        refine zz_zret C hr hlk (by decide +kernel) (by decide) hQ (by decide) (by decide) ?_
        have e : pl_cmp q x y ↔ x ≤ y := by simp [pl_cmp, hsw]
        first | exact zz_rT hp c71 e | exact zz_rT hp (Int32.not_le.mp c71) e | exact zz_rT hp (Int32.not_lt.mp c71) e | exact zz_rF hp c71 e | exact zz_rF hp (Int32.not_lt.mpr c71) e | exact zz_rF hp (Int32.not_le.mpr c71) e | exact zz_rF hp (fun z => z c71) e
    · refine zz_tableIn (dflt := 90) (lo := 1) (hi := 5) (offs := #[35, 46, 57, 68, 79]) (len := 35) (off := 79) (tgt := 80) C (by decide +kernel) (by rw [hsw]; decide) (by rw [hsw]; decide) (by rw [hsw]; rfl) (by decide) ?_
      refine zz_iload_n (q := 81) (f := 1) (i := 1) C (by decide +kernel) rfl rfl rfl ?_
      refine zz_iload_n (q := 82) (f := 2) (i := 2) C (by decide +kernel) rfl rfl rfl ?_
      refine zz_icmp_le (off := 7) (tgt := 89) (q := 85) C (by decide +kernel) (by decide) rfl (fun c82 => ?_) (fun c82 => ?_)
      · refine zz_iconst (q := 90) (n := 0) (x := 0) C (by decide +kernel) rfl (by decide +kernel) ?_
        refine zz_zret C hr hlk (by decide +kernel) (by decide) hQ (by decide) (by decide) ?_
        have e : pl_cmp q x y ↔ y < x := by simp [pl_cmp, hsw]
        first | exact zz_rT hp c82 e | exact zz_rT hp (Int32.not_le.mp c82) e | exact zz_rT hp (Int32.not_lt.mp c82) e | exact zz_rF hp c82 e | exact zz_rF hp (Int32.not_lt.mpr c82) e | exact zz_rF hp (Int32.not_le.mpr c82) e | exact zz_rF hp (fun z => z c82) e
      · refine zz_iconst (q := 86) (n := 1) (x := 1) C (by decide +kernel) rfl (by decide +kernel) ?_
        refine zz_goto (off := 4) (tgt := 90) C (by decide +kernel) (by decide) ?_
        refine zz_zret C hr hlk (by decide +kernel) (by decide) hQ (by decide) (by decide) ?_
        have e : pl_cmp q x y ↔ y < x := by simp [pl_cmp, hsw]
        first | exact zz_rT hp c82 e | exact zz_rT hp (Int32.not_le.mp c82) e | exact zz_rT hp (Int32.not_lt.mp c82) e | exact zz_rF hp c82 e | exact zz_rF hp (Int32.not_lt.mpr c82) e | exact zz_rF hp (Int32.not_le.mpr c82) e | exact zz_rF hp (fun z => z c82) e
    · refine zz_tableOut (dflt := 90) (lo := 1) (hi := 5) (offs := #[35, 46, 57, 68, 79]) (len := 35) (tgt := 91) C (by decide +kernel) hsw (by decide) ?_
      refine zz_iload_n (q := 92) (f := 1) (i := 1) C (by decide +kernel) rfl rfl rfl ?_
      refine zz_iload_n (q := 93) (f := 2) (i := 2) C (by decide +kernel) rfl rfl rfl ?_
      refine zz_icmp_lt (off := 7) (tgt := 100) (q := 96) C (by decide +kernel) (by decide) rfl (fun c93 => ?_) (fun c93 => ?_)
      · refine zz_iconst (q := 101) (n := 0) (x := 0) C (by decide +kernel) rfl (by decide +kernel) ?_
        refine zz_zret C hr hlk (by decide +kernel) (by decide) hQ (by decide) (by decide) ?_
        have e : pl_cmp q x y ↔ y ≤ x := by
          have n1 : q ≠ 1 := fun z => by rw [z] at hsw; exact absurd hsw (by decide)
          have n2 : q ≠ 2 := fun z => by rw [z] at hsw; exact absurd hsw (by decide)
          have n3 : q ≠ 3 := fun z => by rw [z] at hsw; exact absurd hsw (by decide)
          have n4 : q ≠ 4 := fun z => by rw [z] at hsw; exact absurd hsw (by decide)
          have n5 : q ≠ 5 := fun z => by rw [z] at hsw; exact absurd hsw (by decide)
          simp [pl_cmp, n1, n2, n3, n4, n5]
        first | exact zz_rT hp c93 e | exact zz_rT hp (Int32.not_le.mp c93) e | exact zz_rT hp (Int32.not_lt.mp c93) e | exact zz_rF hp c93 e | exact zz_rF hp (Int32.not_lt.mpr c93) e | exact zz_rF hp (Int32.not_le.mpr c93) e
      · refine zz_iconst (q := 97) (n := 1) (x := 1) C (by decide +kernel) rfl (by decide +kernel) ?_
        refine zz_goto (off := 4) (tgt := 101) C (by decide +kernel) (by decide) ?_
        refine zz_zret C hr hlk (by decide +kernel) (by decide) hQ (by decide) (by decide) ?_
        have e : pl_cmp q x y ↔ y ≤ x := by
          have n1 : q ≠ 1 := fun z => by rw [z] at hsw; exact absurd hsw (by decide)
          have n2 : q ≠ 2 := fun z => by rw [z] at hsw; exact absurd hsw (by decide)
          have n3 : q ≠ 3 := fun z => by rw [z] at hsw; exact absurd hsw (by decide)
          have n4 : q ≠ 4 := fun z => by rw [z] at hsw; exact absurd hsw (by decide)
          have n5 : q ≠ 5 := fun z => by rw [z] at hsw; exact absurd hsw (by decide)
          simp [pl_cmp, n1, n2, n3, n4, n5]
        first | exact zz_rT hp c93 e | exact zz_rT hp (Int32.not_le.mp c93) e | exact zz_rT hp (Int32.not_lt.mp c93) e | exact zz_rF hp c93 e | exact zz_rF hp (Int32.not_lt.mpr c93) e | exact zz_rF hp (Int32.not_le.mpr c93) e

def T_M_isType : zz_Tr := fun as h post => ∃ r t, as = [zz_r 7 (some r), zz_i t] ∧ mo_ok h r ∧ post (some (zz_i (zz_b (mo_ty h r t)))) h
set_option maxRecDepth 100000 in
set_option maxHeartbeats 4000000 in
theorem m_M_isType (l : Launch) : zz_Met l y_M_isType w_M_isType { frames := 1, cells := 0, slots := 0, locals := 12 } T_M_isType := by
  refine zz_ofZ (by decide) (fun as h post hT => ?_) ?_
  · obtain ⟨r, t, rfl, hok, hp⟩ := hT
    exact ⟨by simp [zz_cat], by simp⟩
  · intro D DA h as post hT p e s m args below meth c Q C hr hlk hnm hQ
    obtain ⟨r, t, rfl, hok, hp⟩ := hT
    refine zz_iload_n (q := 1) (f := 1) (i := 1) C (by decide +kernel) rfl rfl rfl ?_
    refine zz_if_lt (off := 22) (tgt := 23) (q := 4) C (by decide +kernel) (by decide) rfl (fun c1 => ?_) (fun c1 => ?_)
    · refine zz_iconst (q := 24) (n := 0) (x := 0) C (by decide +kernel) rfl (by decide +kernel) ?_
      refine zz_zret C hr hlk (by decide +kernel) (by decide) hQ (by decide) (by decide) ?_
      first
        | exact zz_b1 (P := fun x => post (some (zz_i x)) h) hp ⟨Int32.not_lt.mp c1, Int32.not_le.mp c7, c16⟩
        | exact zz_b0 (P := fun x => post (some (zz_i x)) h) hp (fun z => absurd c1 (Int32.not_lt.mpr z.1))
        | exact zz_b0 (P := fun x => post (some (zz_i x)) h) hp (fun z => z.2.2 c16)
        | exact zz_b0 (P := fun x => post (some (zz_i x)) h) hp (fun z => absurd c7 (Int32.not_le.mpr z.2.1))
    · refine zz_iload_n (q := 5) (f := 1) (i := 1) C (by decide +kernel) rfl rfl rfl ?_
      refine zz_bipush (q := 7) (n := 8) (x := 8) C (by decide +kernel) rfl (by decide +kernel) ?_
      refine zz_icmp_ge (off := 16) (tgt := 23) (q := 10) C (by decide +kernel) (by decide) rfl (fun c7 => ?_) (fun c7 => ?_)
      · refine zz_iconst (q := 24) (n := 0) (x := 0) C (by decide +kernel) rfl (by decide +kernel) ?_
        refine zz_zret C hr hlk (by decide +kernel) (by decide) hQ (by decide) (by decide) ?_
        first
          | exact zz_b1 (P := fun x => post (some (zz_i x)) h) hp ⟨Int32.not_lt.mp c1, Int32.not_le.mp c7, c16⟩
          | exact zz_b0 (P := fun x => post (some (zz_i x)) h) hp (fun z => absurd c1 (Int32.not_lt.mpr z.1))
          | exact zz_b0 (P := fun x => post (some (zz_i x)) h) hp (fun z => z.2.2 c16)
          | exact zz_b0 (P := fun x => post (some (zz_i x)) h) hp (fun z => absurd c7 (Int32.not_le.mpr z.2.1))
      · have h9 := nI_in9 nI_8 (by decide) c1 (Int32.not_le.mp c7)
        refine zz_aload_n (q := 11) (f := 0) (i := 0) C (by decide +kernel) rfl rfl rfl ?_
        refine zz_getR (q := 14) C gf_M_7 (by decide +kernel) rfl (by first | rfl | assumption) (hok 1 91 8 rfl).1 ?_
        refine zz_iload_n (q := 15) (f := 1) (i := 1) C (by decide +kernel) rfl rfl rfl ?_
        refine zz_baload (q := 16) C (by decide +kernel) rfl rfl (hok 1 91 8 rfl).2 h9.2 h9.1 (by decide) rfl ?_
        refine zz_if_eq (off := 7) (tgt := 23) (q := 19) C (by decide +kernel) (by decide) rfl (fun c16 => ?_) (fun c16 => ?_)
        · refine zz_iconst (q := 24) (n := 0) (x := 0) C (by decide +kernel) rfl (by decide +kernel) ?_
          refine zz_zret C hr hlk (by decide +kernel) (by decide) hQ (by decide) (by decide) ?_
          first
            | exact zz_b1 (P := fun x => post (some (zz_i x)) h) hp ⟨Int32.not_lt.mp c1, Int32.not_le.mp c7, c16⟩
            | exact zz_b0 (P := fun x => post (some (zz_i x)) h) hp (fun z => absurd c1 (Int32.not_lt.mpr z.1))
            | exact zz_b0 (P := fun x => post (some (zz_i x)) h) hp (fun z => z.2.2 c16)
            | exact zz_b0 (P := fun x => post (some (zz_i x)) h) hp (fun z => absurd c7 (Int32.not_le.mpr z.2.1))
        · refine zz_iconst (q := 20) (n := 1) (x := 1) C (by decide +kernel) rfl (by decide +kernel) ?_
          refine zz_goto (off := 4) (tgt := 24) C (by decide +kernel) (by decide) ?_
          refine zz_zret C hr hlk (by decide +kernel) (by decide) hQ (by decide) (by decide) ?_
          first
            | exact zz_b1 (P := fun x => post (some (zz_i x)) h) hp ⟨Int32.not_lt.mp c1, Int32.not_le.mp c7, c16⟩
            | exact zz_b0 (P := fun x => post (some (zz_i x)) h) hp (fun z => absurd c1 (Int32.not_lt.mpr z.1))
            | exact zz_b0 (P := fun x => post (some (zz_i x)) h) hp (fun z => z.2.2 c16)
            | exact zz_b0 (P := fun x => post (some (zz_i x)) h) hp (fun z => absurd c7 (Int32.not_le.mpr z.2.1))

def T_M_hasWord : zz_Tr := fun as h post => ∃ r t i k, as = [zz_r 7 (some r), zz_i t, zz_i i] ∧ mo_ok h r ∧ k < 8 ∧ t = nI k ∧ post (some (zz_i (zz_b (mo_hw h r t i)))) h
set_option maxRecDepth 100000 in
set_option maxHeartbeats 4000000 in
theorem m_M_hasWord (l : Launch) : zz_Met l y_M_hasWord w_M_hasWord { frames := 1, cells := 0, slots := 0, locals := 12 } T_M_hasWord := by
  refine zz_ofZ (by decide) (fun as h post hT => ?_) ?_
  · obtain ⟨r, t, i, k, rfl, hok, hk, ht, hp⟩ := hT
    exact ⟨by simp [zz_cat], by simp⟩
  · intro D DA h as post hT p e s m args below meth c Q C hr hlk hnm hQ
    obtain ⟨r, t, i, k, rfl, hok, hk, ht, hp⟩ := hT
    refine zz_iload_n (q := 1) (f := 2) (i := 2) C (by decide +kernel) rfl rfl rfl ?_
    refine zz_if_lt (off := 17) (tgt := 18) (q := 4) C (by decide +kernel) (by decide) rfl (fun c1 => ?_) (fun c1 => ?_)
    · refine zz_iconst (q := 19) (n := 0) (x := 0) C (by decide +kernel) rfl (by decide +kernel) ?_
      refine zz_zret C hr hlk (by decide +kernel) (by decide) hQ (by decide) (by decide) ?_
      first
        | exact zz_b1 (P := fun x => post (some (zz_i x)) h) hp ⟨Int32.not_lt.mp c1, Int32.not_le.mp c11⟩
        | exact zz_b0 (P := fun x => post (some (zz_i x)) h) hp (fun z => absurd c1 (Int32.not_lt.mpr z.1))
        | exact zz_b0 (P := fun x => post (some (zz_i x)) h) hp (fun z => absurd c11 (Int32.not_le.mpr z.2))
    · refine zz_iload_n (q := 5) (f := 2) (i := 2) C (by decide +kernel) rfl rfl rfl ?_
      refine zz_aload_n (q := 6) (f := 0) (i := 0) C (by decide +kernel) rfl rfl rfl ?_
      refine zz_getR (q := 9) C gf_M_20 (by decide +kernel) rfl (by first | rfl | assumption) (hok 4 90 8 rfl).1 ?_
      refine zz_iload_n (q := 10) (f := 1) (i := 1) C (by decide +kernel) rfl rfl rfl ?_
      refine zz_iaload (q := 11) C (by decide +kernel) rfl rfl (hok 4 90 8 rfl).2 (nI_lt9 (by decide) hk ht).2 (nI_lt9 (by decide) hk ht).1 (by decide) rfl ?_
      refine zz_icmp_ge (off := 7) (tgt := 18) (q := 14) C (by decide +kernel) (by decide) rfl (fun c11 => ?_) (fun c11 => ?_)
      · refine zz_iconst (q := 19) (n := 0) (x := 0) C (by decide +kernel) rfl (by decide +kernel) ?_
        refine zz_zret C hr hlk (by decide +kernel) (by decide) hQ (by decide) (by decide) ?_
        first
          | exact zz_b1 (P := fun x => post (some (zz_i x)) h) hp ⟨Int32.not_lt.mp c1, Int32.not_le.mp c11⟩
          | exact zz_b0 (P := fun x => post (some (zz_i x)) h) hp (fun z => absurd c1 (Int32.not_lt.mpr z.1))
          | exact zz_b0 (P := fun x => post (some (zz_i x)) h) hp (fun z => absurd c11 (Int32.not_le.mpr z.2))
      · refine zz_iconst (q := 15) (n := 1) (x := 1) C (by decide +kernel) rfl (by decide +kernel) ?_
        refine zz_goto (off := 4) (tgt := 19) C (by decide +kernel) (by decide) ?_
        refine zz_zret C hr hlk (by decide +kernel) (by decide) hQ (by decide) (by decide) ?_
        first
          | exact zz_b1 (P := fun x => post (some (zz_i x)) h) hp ⟨Int32.not_lt.mp c1, Int32.not_le.mp c11⟩
          | exact zz_b0 (P := fun x => post (some (zz_i x)) h) hp (fun z => absurd c1 (Int32.not_lt.mpr z.1))
          | exact zz_b0 (P := fun x => post (some (zz_i x)) h) hp (fun z => absurd c11 (Int32.not_le.mpr z.2))

def T_M_work : zz_Tr := fun as h post => ∃ r i v, as = [zz_r 7 (some r), zz_i i, zz_i v] ∧ mo_ok h r ∧ (¬ (0 ≤ i ∧ i < 4) → post none (zz_pI h 7 0 r 1)) ∧ (0 ≤ i ∧ i < 4 → post none (zz_sI (zz_pI h 7 0 r 0) (mf h r 27) i.toNatClampNeg v))
set_option maxRecDepth 100000 in
set_option maxHeartbeats 4000000 in
theorem m_M_work (l : Launch) : zz_Met l y_M_work w_M_work { frames := 1, cells := 0, slots := 0, locals := 12 } T_M_work := by
  refine zz_ofZ (by decide) (fun as h post hT => ?_) ?_
  · obtain ⟨r, i, v, rfl, hok, hpX, hp⟩ := hT
    exact ⟨by simp [zz_cat], by simp⟩
  · intro D DA h as post hT p e s m args below meth c Q C hr hlk hnm hQ
    obtain ⟨r, i, v, rfl, hok, hpX, hp⟩ := hT
    have lp18 : ∀ x : Int32, (x = 0 → 0 ≤ i ∧ i < 4) → (x ≠ 0 → x = 1 ∧ ¬ (0 ≤ i ∧ i < 4)) → zz_Z p l e { frames := 1, cells := 0, slots := 0, locals := 12 } s m args below meth c Q D DA (zz_A h s.heap.size) h 3 18 [some (zz_r 7 (some r)), some (zz_i i), some (zz_i v)] [] (zz_pI h 7 0 r x) 0 0 := by
      intro x g1 g2
      refine zz_aload_n (q := 19) (f := 0) (i := 0) C (by decide +kernel) rfl rfl rfl ?_
      refine zz_getI (q := 22) C gf_M_88 (by decide +kernel) rfl (by first | rfl | assumption) (if_pos ⟨rfl, rfl, rfl⟩) ?_
      refine zz_if_ne (off := 10) (tgt := 32) (q := 25) C (by decide +kernel) (by decide) rfl (fun c22 => ?_) (fun c22 => ?_)
      · refine zz_vret C hr hlk (by decide +kernel) hQ (by decide) (by decide) ?_
        first
          | (obtain ⟨e1, e2⟩ := g2 c22; rw [e1]; exact hpX e2)
          | (rw [c22]; exact hp g3)
      · have g3 := g1 c22
        have h9 := nI_in9 (n := 4) rfl (by decide) (Int32.not_lt.mpr g3.1) g3.2
        refine zz_aload_n (q := 26) (f := 0) (i := 0) C (by decide +kernel) rfl rfl rfl ?_
        refine zz_getR (q := 29) C gf_M_79 (by decide +kernel) rfl (by first | rfl | assumption) (hok 27 90 4 rfl).1 ?_
        refine zz_iload_n (q := 30) (f := 1) (i := 1) C (by decide +kernel) rfl rfl rfl ?_
        refine zz_iload_n (q := 31) (f := 2) (i := 2) C (by decide +kernel) rfl rfl rfl ?_
        refine zz_iastore (q := 32) C (by decide +kernel) rfl rfl (hok 27 90 4 rfl).2 h9.2 h9.1 (by decide) ?_
        refine zz_vret C hr hlk (by decide +kernel) hQ (by decide) (by decide) ?_
        first
          | (obtain ⟨e1, e2⟩ := g2 c22; rw [e1]; exact hpX e2)
          | (rw [c22]; exact hp g3)
    refine zz_aload_n (q := 1) (f := 0) (i := 0) C (by decide +kernel) rfl rfl rfl ?_
    refine zz_iload_n (q := 2) (f := 1) (i := 1) C (by decide +kernel) rfl rfl rfl ?_
    refine zz_if_lt (off := 12) (tgt := 14) (q := 5) C (by decide +kernel) (by decide) rfl (fun c2 => ?_) (fun c2 => ?_)
    · refine zz_iconst (q := 15) (n := 1) (x := 1) C (by decide +kernel) rfl (by decide +kernel) ?_
      refine zz_putI (q := 18) C gf_M_88 (fun h => by cases h) (fun h => by cases h) (by decide +kernel) rfl (by first | rfl | assumption) ?_
      -- AT 18
      first
        | exact lp18 0 (fun _ => ⟨Int32.not_lt.mp c2, Int32.not_le.mp c7⟩) (fun z => absurd rfl z)
        | exact lp18 1 (fun z => absurd z (by decide)) (fun _ => ⟨rfl, fun z => absurd c2 (Int32.not_lt.mpr z.1)⟩)
        | exact lp18 1 (fun z => absurd z (by decide)) (fun _ => ⟨rfl, fun z => absurd c7 (Int32.not_le.mpr z.2)⟩)
    · refine zz_iload_n (q := 6) (f := 1) (i := 1) C (by decide +kernel) rfl rfl rfl ?_
      refine zz_iconst (q := 7) (n := 4) (x := 4) C (by decide +kernel) rfl (by decide +kernel) ?_
      refine zz_icmp_ge (off := 7) (tgt := 14) (q := 10) C (by decide +kernel) (by decide) rfl (fun c7 => ?_) (fun c7 => ?_)
      · refine zz_iconst (q := 15) (n := 1) (x := 1) C (by decide +kernel) rfl (by decide +kernel) ?_
        refine zz_putI (q := 18) C gf_M_88 (fun h => by cases h) (fun h => by cases h) (by decide +kernel) rfl (by first | rfl | assumption) ?_
        -- AT 18
        first
          | exact lp18 0 (fun _ => ⟨Int32.not_lt.mp c2, Int32.not_le.mp c7⟩) (fun z => absurd rfl z)
          | exact lp18 1 (fun z => absurd z (by decide)) (fun _ => ⟨rfl, fun z => absurd c2 (Int32.not_lt.mpr z.1)⟩)
          | exact lp18 1 (fun z => absurd z (by decide)) (fun _ => ⟨rfl, fun z => absurd c7 (Int32.not_le.mpr z.2)⟩)
      · refine zz_iconst (q := 11) (n := 0) (x := 0) C (by decide +kernel) rfl (by decide +kernel) ?_
        refine zz_goto (off := 4) (tgt := 15) C (by decide +kernel) (by decide) ?_
        refine zz_putI (q := 18) C gf_M_88 (fun h => by cases h) (fun h => by cases h) (by decide +kernel) rfl (by first | rfl | assumption) ?_
        -- AT 18
        first
          | exact lp18 0 (fun _ => ⟨Int32.not_lt.mp c2, Int32.not_le.mp c7⟩) (fun z => absurd rfl z)
          | exact lp18 1 (fun z => absurd z (by decide)) (fun _ => ⟨rfl, fun z => absurd c2 (Int32.not_lt.mpr z.1)⟩)
          | exact lp18 1 (fun z => absurd z (by decide)) (fun _ => ⟨rfl, fun z => absurd c7 (Int32.not_le.mpr z.2)⟩)

def T_M_bySecond : zz_Tr := fun as h post => ∃ r on, as = [zz_r 7 (some r), zz_i on] ∧ (on = 0 ∨ on = 1) ∧ (zz_fI h 7 9 r = -1 → post none (zz_pI (mo_bg h r) 7 0 r 1)) ∧ (zz_fI h 7 9 r ≠ -1 → post none (zz_pI (zz_pI (mo_bg h r) 7 11 r on) 7 28 r 0))
set_option maxRecDepth 100000 in
set_option maxHeartbeats 4000000 in
theorem m_M_bySecond (l : Launch) : zz_Met l y_M_bySecond w_M_bySecond { frames := 2, cells := 0, slots := 0, locals := 32 } T_M_bySecond := by
  refine zz_ofZ (by decide) (fun as h post hT => ?_) ?_
  · obtain ⟨r, on, rfl, hon, hpX, hp⟩ := hT
    exact ⟨by simp [zz_cat], by simp⟩
  · intro D DA h as post hT p e s m args below meth c Q C hr hlk hnm hQ
    obtain ⟨r, on, rfl, hon, hpX, hp⟩ := hT
    refine zz_aload_n (q := 1) (f := 0) (i := 0) C (by decide +kernel) rfl rfl rfl ?_
    refine zz_callV (q := 4) C (m_M_begin l) cv_M_91 (by decide +kernel) rfl rfl rfl (by first | rfl | assumption) (by decide) (by decide) (Nat.le_of_ble_eq_true rfl) ⟨_, rfl, ?_⟩
    refine zz_aload_n (q := 5) (f := 0) (i := 0) C (by decide +kernel) rfl rfl rfl ?_
    refine zz_getI (q := 8) C gf_M_35 (by decide +kernel) rfl (by first | rfl | assumption) rfl ?_
    refine zz_iconst (q := 9) (n := -1) (x := (-1)) C (by decide +kernel) rfl (by decide +kernel) ?_
    refine zz_icmp_ne (off := 9) (tgt := 18) (q := 12) C (by decide +kernel) (by decide) rfl (fun c9 => ?_) (fun c9 => ?_)
    · refine zz_aload_n (q := 19) (f := 0) (i := 0) C (by decide +kernel) rfl rfl rfl ?_
      refine zz_iload_n (q := 20) (f := 1) (i := 1) C (by decide +kernel) rfl rfl rfl ?_
      refine zz_putI (q := 23) C gf_M_124 (fun h => by cases h) (fun _ => hon) (by decide +kernel) rfl (by first | rfl | assumption) ?_
      refine zz_aload_n (q := 24) (f := 0) (i := 0) C (by decide +kernel) rfl rfl rfl ?_
      refine zz_iconst (q := 25) (n := 0) (x := 0) C (by decide +kernel) rfl (by decide +kernel) ?_
      refine zz_putI (q := 28) C gf_M_144 (fun h => by cases h) (fun h => by cases h) (by decide +kernel) rfl (by first | rfl | assumption) ?_
      refine zz_vret C hr hlk (by decide +kernel) hQ (by decide) (by decide) ?_
      exact hp c9
    · refine zz_aload_n (q := 13) (f := 0) (i := 0) C (by decide +kernel) rfl rfl rfl ?_
      refine zz_iconst (q := 14) (n := 1) (x := 1) C (by decide +kernel) rfl (by decide +kernel) ?_
      refine zz_putI (q := 17) C gf_M_88 (fun h => by cases h) (fun h => by cases h) (by decide +kernel) rfl (by first | rfl | assumption) ?_
      refine zz_vret C hr hlk (by decide +kernel) hQ (by decide) (by decide) ?_
      exact hpX c9

def T_M_count : zz_Tr := fun as h post => ∃ r, as = [zz_r 7 (some r)] ∧ post (some (zz_i (zz_fI h 7 13 r))) (mo_bg h r)
set_option maxRecDepth 100000 in
set_option maxHeartbeats 4000000 in
theorem m_M_count (l : Launch) : zz_Met l y_M_count w_M_count { frames := 2, cells := 0, slots := 0, locals := 32 } T_M_count := by
  refine zz_ofZ (by decide) (fun as h post hT => ?_) ?_
  · obtain ⟨r, rfl, hp⟩ := hT
    exact ⟨by simp [zz_cat], by simp⟩
  · intro D DA h as post hT p e s m args below meth c Q C hr hlk hnm hQ
    obtain ⟨r, rfl, hp⟩ := hT
    refine zz_aload_n (q := 1) (f := 0) (i := 0) C (by decide +kernel) rfl rfl rfl ?_
    refine zz_callV (q := 4) C (m_M_begin l) cv_M_91 (by decide +kernel) rfl rfl rfl (by first | rfl | assumption) (by decide) (by decide) (Nat.le_of_ble_eq_true rfl) ⟨_, rfl, ?_⟩
    refine zz_aload_n (q := 5) (f := 0) (i := 0) C (by decide +kernel) rfl rfl rfl ?_
    refine zz_getI (q := 8) C gf_M_153 (by decide +kernel) rfl (by first | rfl | assumption) rfl ?_
    refine zz_iret C hr hlk (by decide +kernel) hQ (by decide) (by decide) ?_
    exact hp

def T_M_at : zz_Tr := fun as h post => ∃ r, as = [zz_r 7 (some r)] ∧ mo_ok h r ∧ (zz_fI h 7 28 r ≠ 1 → post (some (zz_i 0)) (zz_pI h 7 0 r 0)) ∧ (zz_fI h 7 28 r = 1 → ∃ w, w < 60 ∧ zz_fI h 7 29 r = nI w ∧ post (some (zz_i (ma h r 14 w))) (zz_pI h 7 0 r 0))
set_option maxRecDepth 100000 in
set_option maxHeartbeats 4000000 in
theorem m_M_at (l : Launch) : zz_Met l y_M_at w_M_at { frames := 1, cells := 0, slots := 0, locals := 12 } T_M_at := by
  refine zz_ofZ (by decide) (fun as h post hT => ?_) ?_
  · obtain ⟨r, rfl, hok, hp0, hp1⟩ := hT
    exact ⟨by simp [zz_cat], by simp⟩
  · intro D DA h as post hT p e s m args below meth c Q C hr hlk hnm hQ
    obtain ⟨r, rfl, hok, hp0, hp1⟩ := hT
    refine zz_aload_n (q := 1) (f := 0) (i := 0) C (by decide +kernel) rfl rfl rfl ?_
    refine zz_iconst (q := 2) (n := 0) (x := 0) C (by decide +kernel) rfl (by decide +kernel) ?_
    refine zz_putI (q := 5) C gf_M_88 (fun h => by cases h) (fun h => by cases h) (by decide +kernel) rfl (by first | rfl | assumption) ?_
    refine zz_aload_n (q := 6) (f := 0) (i := 0) C (by decide +kernel) rfl rfl rfl ?_
    refine zz_getI (q := 9) C gf_M_144 (by decide +kernel) rfl (by first | rfl | assumption) rfl ?_
    refine zz_iconst (q := 10) (n := 1) (x := 1) C (by decide +kernel) rfl (by decide +kernel) ?_
    refine zz_icmp_ne (off := 15) (tgt := 25) (q := 13) C (by decide +kernel) (by decide) rfl (fun c10 => ?_) (fun c10 => ?_)
    · refine zz_iconst (q := 26) (n := 0) (x := 0) C (by decide +kernel) rfl (by decide +kernel) ?_
      refine zz_iret C hr hlk (by decide +kernel) hQ (by decide) (by decide) ?_
      first | exact hp | exact hp0 c10
    · obtain ⟨w, hw1, hw2, hp⟩ := hp1 c10
      refine zz_aload_n (q := 14) (f := 0) (i := 0) C (by decide +kernel) rfl rfl rfl ?_
      refine zz_getR (q := 17) C gf_M_39 (by decide +kernel) rfl (by first | rfl | assumption) (hok 14 90 60 rfl).1 ?_
      refine zz_aload_n (q := 18) (f := 0) (i := 0) C (by decide +kernel) rfl rfl rfl ?_
      refine zz_getI (q := 21) C gf_M_147 (by decide +kernel) rfl (by first | rfl | assumption) hw2 ?_
      refine zz_iaload (q := 22) C (by decide +kernel) rfl rfl (hok 14 90 60 rfl).2 rfl (by omega) (by decide) rfl ?_
      refine zz_goto (off := 4) (tgt := 26) C (by decide +kernel) (by decide) ?_
      refine zz_iret C hr hlk (by decide +kernel) hQ (by decide) (by decide) ?_
      first | exact hp | exact hp0 c10

def T_M_fix : zz_Tr := fun as h post => ∃ r, as = [zz_r 7 (some r)] ∧ mo_ok h r ∧ (zz_fI h 7 28 r ≠ 1 → post (some (zz_i 0)) (zz_pI (mo_bg h r) 7 0 r 1)) ∧ (zz_fI h 7 28 r = 1 → ∃ w, w < 60 ∧ zz_fI h 7 29 r = nI w ∧ post (some (zz_i (ma h r 14 w))) (zz_pI (mo_bg h r) 7 31 r (nI w)))
set_option maxRecDepth 100000 in
set_option maxHeartbeats 4000000 in
theorem m_M_fix (l : Launch) : zz_Met l y_M_fix w_M_fix { frames := 2, cells := 0, slots := 0, locals := 33 } T_M_fix := by
  refine zz_ofZ (by decide) (fun as h post hT => ?_) ?_
  · obtain ⟨r, rfl, hok, hp0, hp1⟩ := hT
    exact ⟨by simp [zz_cat], by simp⟩
  · intro D DA h as post hT p e s m args below meth c Q C hr hlk hnm hQ
    obtain ⟨r, rfl, hok, hp0, hp1⟩ := hT
    refine zz_aload_n (q := 1) (f := 0) (i := 0) C (by decide +kernel) rfl rfl rfl ?_
    refine zz_callV (q := 4) C (m_M_begin l) cv_M_91 (by decide +kernel) rfl rfl rfl (by first | rfl | assumption) (by decide) (by decide) (Nat.le_of_ble_eq_true rfl) ⟨_, rfl, ?_⟩
    refine zz_aload_n (q := 5) (f := 0) (i := 0) C (by decide +kernel) rfl rfl rfl ?_
    refine zz_getI (q := 8) C gf_M_144 (by decide +kernel) rfl (by first | rfl | assumption) rfl ?_
    refine zz_iconst (q := 9) (n := 1) (x := 1) C (by decide +kernel) rfl (by decide +kernel) ?_
    refine zz_icmp_eq (off := 9) (tgt := 18) (q := 12) C (by decide +kernel) (by decide) rfl (fun c9 => ?_) (fun c9 => ?_)
    · obtain ⟨w, hw1, hw2, hp⟩ := hp1 c9
      refine zz_aload_n (q := 19) (f := 0) (i := 0) C (by decide +kernel) rfl rfl rfl ?_
      refine zz_aload_n (q := 20) (f := 0) (i := 0) C (by decide +kernel) rfl rfl rfl ?_
      refine zz_getI (q := 23) C gf_M_147 (by decide +kernel) rfl (by first | rfl | assumption) hw2 ?_
      refine zz_putI (q := 26) C gf_M_85 (fun h => by cases h) (fun h => by cases h) (by decide +kernel) rfl (by first | rfl | assumption) ?_
      refine zz_aload_n (q := 27) (f := 0) (i := 0) C (by decide +kernel) rfl rfl rfl ?_
      refine zz_getR (q := 30) C gf_M_39 (by decide +kernel) rfl (by first | rfl | assumption) (hok 14 90 60 rfl).1 ?_
      refine zz_aload_n (q := 31) (f := 0) (i := 0) C (by decide +kernel) rfl rfl rfl ?_
      refine zz_getI (q := 34) C gf_M_85 (by decide +kernel) rfl (by first | rfl | assumption) (if_pos ⟨rfl, rfl, rfl⟩) ?_
      refine zz_iaload (q := 35) C (by decide +kernel) rfl rfl (hok 14 90 60 rfl).2 rfl (by omega) (by decide) rfl ?_
      refine zz_iret C hr hlk (by decide +kernel) hQ (by decide) (by decide) ?_
      exact hp
    · refine zz_aload_n (q := 13) (f := 0) (i := 0) C (by decide +kernel) rfl rfl rfl ?_
      refine zz_iconst (q := 14) (n := 1) (x := 1) C (by decide +kernel) rfl (by decide +kernel) ?_
      refine zz_callV (q := 17) C (m_M_refuse l) cv_M_173 (by decide +kernel) rfl rfl rfl (by first | rfl | assumption) (by decide) (by decide) (Nat.le_of_ble_eq_true rfl) ⟨_, _, rfl, ?_⟩
      refine zz_iret C hr hlk (by decide +kernel) hQ (by decide) (by decide) ?_
      exact hp0 c9
end
section
/-! the reference: slots, what a path asks of one -/
theorem nI_mul9 (a b : Nat) : nI a * nI b = nI (a * b) := (Int32.ofNat_mul a b).symm
def mK (h : zz_H) (r s : Nat) : Nat := (ma h r 15 s).toNatClampNeg
def mT (h : zz_H) (r k : Nat) : Nat := (ma h r 3 k).toNatClampNeg
def mLv (h : zz_H) (r s : Nat) : Nat := mT h r (mK h r s)
def mLive (h : zz_H) (r s : Nat) : Prop := s < 60 ∧ 0 < ma h r 14 s
/-- the slots that hold segments are well formed -/
def mo_wl (h : zz_H) (r : Nat) : Prop := ∀ s, mLive h r s → ma h r 15 s = nI (mK h r s) ∧ mK h r s < 8 ∧ ma h r 3 (mK h r s) = nI (mLv h r s) ∧ 1 ≤ mLv h r s ∧ mLv h r s ≤ 4 ∧ ((ma h r 16 s = -1 ∧ mLv h r s = 1) ∨ ∃ p, mLive h r p ∧ ma h r 16 s = nI p ∧ mLv h r p + 1 = mLv h r s)
def mC (h : zz_H) (r l : Nat) : Nat := (ma h r 23 l).toNatClampNeg
def mW (h : zz_H) (r k : Nat) : Nat := (ma h r 24 k).toNatClampNeg
def mo_wp (h : zz_H) (r : Nat) : Prop := ∀ l, l < 5 → ma h r 23 l = nI (mC h r l) ∧ mC h r l ≤ 3 ∧ ∀ k, k < mC h r l → ma h r 24 (3 * l + k) = nI (mW h r (3 * l + k)) ∧ mW h r (3 * l + k) < 4
/-- what the condition at a place asks of a slot -/
def mo_c1 (h : zz_H) (r s k : Nat) : Prop := pl_cmp (ma h r 25 k) (ma h r 18 (4 * s + mW h r k)) (ma h r 26 k)
def mo_fit (h : zz_H) (r s : Nat) : Prop := ma h r 22 (mLv h r s) = -1 ∨ (ma h r 22 (mLv h r s) = ma h r 15 s ∧ ∀ k, k < mC h r (mLv h r s) → mo_c1 h r s (3 * mLv h r s + k))
def T_M_fits : zz_Tr := fun as h post => ∃ r s9, as = [zz_r 7 (some r), zz_i (nI s9)] ∧ mo_ok h r ∧ mo_wl h r ∧ mo_wp h r ∧ mLive h r s9 ∧ post (some (zz_i (zz_b (mo_fit h r s9)))) h
set_option maxRecDepth 100000 in
set_option maxHeartbeats 4000000 in
theorem m_M_fits (l : Launch) : zz_Met l y_M_fits w_M_fits { frames := 2, cells := 0, slots := 0, locals := 34 } T_M_fits := by
  refine zz_ofZ (by decide) (fun as h post hT => ?_) ?_
  · obtain ⟨r, s9, rfl, hok, hwl, hwp, hlv, hp⟩ := hT
    exact ⟨by simp [zz_cat], by simp⟩
  · intro D DA h as post hT p e s m args below meth c Q C hr hlk hnm hQ
    obtain ⟨r, s9, rfl, hok, hwl, hwp, hlv, hp⟩ := hT
    obtain ⟨e1, e2, e3, e4, e5, -⟩ := hwl s9 hlv
    obtain ⟨g1, g2, g3⟩ := hwp (mLv h r s9) (by omega)
    have hs60 := hlv.1
    have lp50 : ma h r 22 (mLv h r s9) ≠ -1 → ∀ n k (al : Int32), 4 ≤ n + k → k ≤ mC h r (mLv h r s9) → ((al = 0 ∧ ¬ mo_fit h r s9) ∨ (al = 1 ∧ ma h r 22 (mLv h r s9) = ma h r 15 s9 ∧ ∀ j, j < k → mo_c1 h r s9 (3 * mLv h r s9 + j))) → zz_Z p l e { frames := 2, cells := 0, slots := 0, locals := 34 } s m args below meth c Q D DA (zz_A h s.heap.size) h 5 50 [some (zz_r 7 (some r)), some (zz_i (nI s9)), some (zz_i (nI (mLv h r s9))), some (zz_i al), some (zz_i (nI (3 * mLv h r s9 + k)))] [] h 0 0 := by
      intro hst n
      induction n with
      | zero =>
        intro k al hn hk
        exact absurd hn (by omega)
      | succ n ih =>
        intro k al hn hk hal
        refine zz_iload (q := 52) (i := 4) C (by decide +kernel) rfl rfl ?_
        refine zz_iconst (q := 53) (n := 3) (x := 3) C (by decide +kernel) rfl (by decide +kernel) ?_
        refine zz_iload_n (q := 54) (f := 2) (i := 2) C (by decide +kernel) rfl rfl rfl ?_
        refine zz_imul (q := 55) C (by decide +kernel) rfl (nI_mul9 3 _) ?_
        refine zz_aload_n (q := 56) (f := 0) (i := 0) C (by decide +kernel) rfl rfl rfl ?_
        refine zz_getR (q := 59) C gf_M_67 (by decide +kernel) rfl (by first | rfl | assumption) (hok 23 90 5 rfl).1 ?_
        refine zz_iload_n (q := 60) (f := 2) (i := 2) C (by decide +kernel) rfl rfl rfl ?_
        refine zz_iaload (q := 61) C (by decide +kernel) rfl rfl (hok 23 90 5 rfl).2 rfl (by omega) (by decide) g1 ?_
        refine zz_iadd (q := 62) C (by decide +kernel) rfl (nI_add _ _) ?_
        refine zz_icmp_ge (off := 47) (tgt := 109) (q := 65) C (by decide +kernel) (by decide) rfl (fun c62 => ?_) (fun c62 => ?_)
        · refine zz_iload_n (q := 110) (f := 3) (i := 3) C (by decide +kernel) rfl rfl rfl ?_
          refine zz_zret C hr hlk (by decide +kernel) (hal.elim (fun z => Or.inl z.1) (fun z => Or.inr z.1)) hQ (by decide) (by decide) ?_
          rcases hal with ⟨h1, h2⟩ | ⟨h1, h2, h3⟩
          · rw [h1]; exact zz_b0 (P := fun x => post (some (zz_i x)) h) hp h2
          · first
              | exact absurd (h1.symm.trans c66) (by decide)
              | (have hk9 : k = mC h r (mLv h r s9) := by
                   have := (nI_leI (a := 3 * mLv h r s9 + mC h r (mLv h r s9)) (b := 3 * mLv h r s9 + k) (by omega) (by omega)).mp c62
                   omega
                 rw [h1]; exact zz_b1 (P := fun x => post (some (zz_i x)) h) hp (Or.inr ⟨h2, hk9 ▸ h3⟩))
        · have hkc : k < mC h r (mLv h r s9) := by
            have : ¬ 3 * mLv h r s9 + mC h r (mLv h r s9) ≤ 3 * mLv h r s9 + k := fun z => c62 (nI_le z (by omega))
            omega
          obtain ⟨w1, w2⟩ := g3 k hkc
          refine zz_iload_n (q := 66) (f := 3) (i := 3) C (by decide +kernel) rfl rfl rfl ?_
          refine zz_if_eq (off := 43) (tgt := 109) (q := 69) C (by decide +kernel) (by decide) rfl (fun c66 => ?_) (fun c66 => ?_)
          · refine zz_iload_n (q := 110) (f := 3) (i := 3) C (by decide +kernel) rfl rfl rfl ?_
            refine zz_zret C hr hlk (by decide +kernel) (hal.elim (fun z => Or.inl z.1) (fun z => Or.inr z.1)) hQ (by decide) (by decide) ?_
            rcases hal with ⟨h1, h2⟩ | ⟨h1, h2, h3⟩
            · rw [h1]; exact zz_b0 (P := fun x => post (some (zz_i x)) h) hp h2
            · first
                | exact absurd (h1.symm.trans c66) (by decide)
                | (have hk9 : k = mC h r (mLv h r s9) := by
                     have := (nI_leI (a := 3 * mLv h r s9 + mC h r (mLv h r s9)) (b := 3 * mLv h r s9 + k) (by omega) (by omega)).mp c62
                     omega
                   rw [h1]; exact zz_b1 (P := fun x => post (some (zz_i x)) h) hp (Or.inr ⟨h2, hk9 ▸ h3⟩))
          · refine zz_aload_n (q := 70) (f := 0) (i := 0) C (by decide +kernel) rfl rfl rfl ?_
            refine zz_getR (q := 73) C gf_M_73 (by decide +kernel) rfl (by first | rfl | assumption) (hok 25 90 15 rfl).1 ?_
            refine zz_iload (q := 75) (i := 4) C (by decide +kernel) rfl rfl ?_
            refine zz_iaload (q := 76) C (by decide +kernel) rfl rfl (hok 25 90 15 rfl).2 rfl (by omega) (by decide) rfl ?_
            refine zz_aload_n (q := 77) (f := 0) (i := 0) C (by decide +kernel) rfl rfl rfl ?_
            refine zz_getR (q := 80) C gf_M_51 (by decide +kernel) rfl (by first | rfl | assumption) (hok 18 90 240 rfl).1 ?_
            refine zz_iconst (q := 81) (n := 4) (x := 4) C (by decide +kernel) rfl (by decide +kernel) ?_
            refine zz_iload_n (q := 82) (f := 1) (i := 1) C (by decide +kernel) rfl rfl rfl ?_
            refine zz_imul (q := 83) C (by decide +kernel) rfl (nI_mul9 4 _) ?_
            refine zz_aload_n (q := 84) (f := 0) (i := 0) C (by decide +kernel) rfl rfl rfl ?_
            refine zz_getR (q := 87) C gf_M_70 (by decide +kernel) rfl (by first | rfl | assumption) (hok 24 90 15 rfl).1 ?_
            refine zz_iload (q := 89) (i := 4) C (by decide +kernel) rfl rfl ?_
            refine zz_iaload (q := 90) C (by decide +kernel) rfl rfl (hok 24 90 15 rfl).2 rfl (by omega) (by decide) w1 ?_
            refine zz_iadd (q := 91) C (by decide +kernel) rfl (nI_add _ _) ?_
            refine zz_iaload (q := 92) C (by decide +kernel) rfl rfl (hok 18 90 240 rfl).2 rfl (by omega) (by decide) rfl ?_
            refine zz_aload_n (q := 93) (f := 0) (i := 0) C (by decide +kernel) rfl rfl rfl ?_
            refine zz_getR (q := 96) C gf_M_76 (by decide +kernel) rfl (by first | rfl | assumption) (hok 26 90 15 rfl).1 ?_
            refine zz_iload (q := 98) (i := 4) C (by decide +kernel) rfl rfl ?_
            refine zz_iaload (q := 99) C (by decide +kernel) rfl rfl (hok 26 90 15 rfl).2 rfl (by omega) (by decide) rfl ?_
            refine zz_callS (q := 102) C (m_M_holds l) cs_M_108 (by decide +kernel) rfl rfl rfl (by decide) (by decide) (Nat.le_of_ble_eq_true rfl) ⟨_, _, _, rfl, ?_⟩
            refine zz_istore_n (q := 103) (f := 3) (i := 3) C (by decide +kernel) rfl rfl (by decide) rfl ?_
            refine zz_iinc (q := 106) (i := 4) (n := 1) C (by decide +kernel) rfl rfl (nI_1 _) (by decide) rfl ?_
            refine zz_goto (off := -56) (tgt := 50) C (by decide +kernel) (by decide) ?_
            -- AT 50
            rcases hal with ⟨h1, h2⟩ | ⟨h1, h2, h3⟩
            · exact absurd h1 c66
            · rw [show 3 * mLv h r s9 + k + 1 = 3 * mLv h r s9 + (k + 1) from rfl]
              by_cases hc : mo_c1 h r s9 (3 * mLv h r s9 + k)
              · refine ih (k + 1) _ (by omega) hkc (Or.inr ⟨zz_bT hc, h2, fun j hj => ?_⟩)
                rcases Nat.lt_succ_iff_lt_or_eq.mp hj with hj | rfl
                · exact h3 j hj
                · exact hc
              · exact ih (k + 1) _ (by omega) hkc (Or.inl ⟨zz_bF hc, fun z => z.elim (fun w => hst w) (fun w => hc (w.2 k hkc))⟩)
    refine zz_aload_n (q := 1) (f := 0) (i := 0) C (by decide +kernel) rfl rfl rfl ?_
    refine zz_getR (q := 4) C gf_M_17 (by decide +kernel) rfl (by first | rfl | assumption) (hok 3 90 8 rfl).1 ?_
    refine zz_aload_n (q := 5) (f := 0) (i := 0) C (by decide +kernel) rfl rfl rfl ?_
    refine zz_getR (q := 8) C gf_M_42 (by decide +kernel) rfl (by first | rfl | assumption) (hok 15 90 60 rfl).1 ?_
    refine zz_iload_n (q := 9) (f := 1) (i := 1) C (by decide +kernel) rfl rfl rfl ?_
    refine zz_iaload (q := 10) C (by decide +kernel) rfl rfl (hok 15 90 60 rfl).2 rfl (by omega) (by decide) e1 ?_
    refine zz_iaload (q := 11) C (by decide +kernel) rfl rfl (hok 3 90 8 rfl).2 rfl e2 (by decide) e3 ?_
    refine zz_istore_n (q := 12) (f := 2) (i := 2) C (by decide +kernel) rfl rfl (by decide) rfl ?_
    refine zz_aload_n (q := 13) (f := 0) (i := 0) C (by decide +kernel) rfl rfl rfl ?_
    refine zz_getR (q := 16) C gf_M_64 (by decide +kernel) rfl (by first | rfl | assumption) (hok 22 90 5 rfl).1 ?_
    refine zz_iload_n (q := 17) (f := 2) (i := 2) C (by decide +kernel) rfl rfl rfl ?_
    refine zz_iaload (q := 18) C (by decide +kernel) rfl rfl (hok 22 90 5 rfl).2 rfl (by omega) (by decide) rfl ?_
    refine zz_iconst (q := 19) (n := -1) (x := (-1)) C (by decide +kernel) rfl (by decide +kernel) ?_
    refine zz_icmp_ne (off := 5) (tgt := 24) (q := 22) C (by decide +kernel) (by decide) rfl (fun c19 => ?_) (fun c19 => ?_)
    · refine zz_aload_n (q := 25) (f := 0) (i := 0) C (by decide +kernel) rfl rfl rfl ?_
      refine zz_getR (q := 28) C gf_M_64 (by decide +kernel) rfl (by first | rfl | assumption) (hok 22 90 5 rfl).1 ?_
      refine zz_iload_n (q := 29) (f := 2) (i := 2) C (by decide +kernel) rfl rfl rfl ?_
      refine zz_iaload (q := 30) C (by decide +kernel) rfl rfl (hok 22 90 5 rfl).2 rfl (by omega) (by decide) rfl ?_
      refine zz_aload_n (q := 31) (f := 0) (i := 0) C (by decide +kernel) rfl rfl rfl ?_
      refine zz_getR (q := 34) C gf_M_42 (by decide +kernel) rfl (by first | rfl | assumption) (hok 15 90 60 rfl).1 ?_
      refine zz_iload_n (q := 35) (f := 1) (i := 1) C (by decide +kernel) rfl rfl rfl ?_
      refine zz_iaload (q := 36) C (by decide +kernel) rfl rfl (hok 15 90 60 rfl).2 rfl (by omega) (by decide) e1 ?_
      refine zz_icmp_ne (off := 7) (tgt := 43) (q := 39) C (by decide +kernel) (by decide) rfl (fun c36 => ?_) (fun c36 => ?_)
      · refine zz_iconst (q := 44) (n := 0) (x := 0) C (by decide +kernel) rfl (by decide +kernel) ?_
        refine zz_istore_n (q := 45) (f := 3) (i := 3) C (by decide +kernel) rfl rfl (by decide) rfl ?_
        refine zz_iconst (q := 46) (n := 3) (x := 3) C (by decide +kernel) rfl (by decide +kernel) ?_
        refine zz_iload_n (q := 47) (f := 2) (i := 2) C (by decide +kernel) rfl rfl rfl ?_
        refine zz_imul (q := 48) C (by decide +kernel) rfl (nI_mul9 3 _) ?_
        refine zz_istore (q := 50) (i := 4) C (by decide +kernel) rfl (by decide) rfl ?_
        -- AT 50
        first
          | exact lp50 c19 4 0 1 (by omega) (by omega) (Or.inr ⟨rfl, c36.trans e1.symm, fun j hj => absurd hj (by omega)⟩)
          | exact lp50 c19 4 0 0 (by omega) (by omega) (Or.inl ⟨rfl, fun z => z.elim (fun w => absurd w c19) (fun w => c36 (w.1.trans e1))⟩)
      · refine zz_iconst (q := 40) (n := 1) (x := 1) C (by decide +kernel) rfl (by decide +kernel) ?_
        refine zz_goto (off := 4) (tgt := 44) C (by decide +kernel) (by decide) ?_
        refine zz_istore_n (q := 45) (f := 3) (i := 3) C (by decide +kernel) rfl rfl (by decide) rfl ?_
        refine zz_iconst (q := 46) (n := 3) (x := 3) C (by decide +kernel) rfl (by decide +kernel) ?_
        refine zz_iload_n (q := 47) (f := 2) (i := 2) C (by decide +kernel) rfl rfl rfl ?_
        refine zz_imul (q := 48) C (by decide +kernel) rfl (nI_mul9 3 _) ?_
        refine zz_istore (q := 50) (i := 4) C (by decide +kernel) rfl (by decide) rfl ?_
        -- AT 50
        first
          | exact lp50 c19 4 0 1 (by omega) (by omega) (Or.inr ⟨rfl, c36.trans e1.symm, fun j hj => absurd hj (by omega)⟩)
          | exact lp50 c19 4 0 0 (by omega) (by omega) (Or.inl ⟨rfl, fun z => z.elim (fun w => absurd w c19) (fun w => c36 (w.1.trans e1))⟩)
    · refine zz_iconst (q := 23) (n := 1) (x := 1) C (by decide +kernel) rfl (by decide +kernel) ?_
      refine zz_zret C hr hlk (by decide +kernel) (by decide) hQ (by decide) (by decide) ?_
      exact zz_b1 (P := fun x => post (some (zz_i x)) h) hp (Or.inl c19)
end
section
/-! the reference: ways up -/
def mP (h : zz_H) (r s : Nat) : Option Nat := if ma h r 16 s = -1 then none else some (ma h r 16 s).toNatClampNeg
theorem nI_neg {x : Nat} (hx : x < 2 ^ 31) : nI x ≠ -1 := fun z => by
  have h1 := nI_toInt hx
  rw [z] at h1
  have h2 : (-1 : Int32).toInt = -1 := by decide +kernel
  omega
theorem mP_no {h : zz_H} {r s : Nat} (e : ma h r 16 s = -1) : mP h r s = none := if_pos e
theorem mP_so {h : zz_H} {r s p : Nat} (hp : p < 60) (e : ma h r 16 s = nI p) : mP h r s = some p := by
  rw [mP, e, if_neg (nI_neg (by omega)), nI_clamp (by omega)]
def mAt (h : zz_H) (r l : Nat) : Nat → Nat → Nat
  | 0, s => s
  | n + 1, s => if mLv h r s ≤ l then s else match mP h r s with
    | none => s
    | some p => mAt h r l n p
theorem mAt_le {h : zz_H} {r l n s : Nat} (hl : mLv h r s ≤ l) : mAt h r l n s = s := by cases n <;> simp [mAt, hl]
theorem mAt_go {h : zz_H} {r l n s p : Nat} (hl : ¬ mLv h r s ≤ l) (hp : mP h r s = some p) : mAt h r l (n + 1) s = mAt h r l n p := by simp [mAt, hl, hp]
def mO (o : Option Nat) : Int32 := match o with
  | none => -1
  | some x => nI x
/-- p stands on the way up from o -/
def mBo (h : zz_H) (r p : Nat) : Nat → Option Nat → Prop
  | _, none => False
  | 0, some x => x = p
  | n + 1, some x => x = p ∨ mBo h r p n (mP h r x)
/-- all on the way up from o fit -/
def mFo (h : zz_H) (r : Nat) : Nat → Option Nat → Prop
  | _, none => True
  | 0, some x => mo_fit h r x
  | n + 1, some x => mo_fit h r x ∧ mFo h r n (mP h r x)
def mGo (h : zz_H) (r n : Nat) (o : Option Nat) : Prop := ∀ x, o = some x → mLive h r x ∧ mLv h r x ≤ n
theorem mGo_up {h : zz_H} {r n x : Nat} (hwl : mo_wl h r) (hx : mLive h r x) (hn : mLv h r x ≤ n + 1) : ma h r 16 x = mO (mP h r x) ∧ mGo h r n (mP h r x) := by
  obtain ⟨-, -, -, e4, -, ⟨e6, -⟩ | ⟨p, e6, e7, e8⟩⟩ := hwl x hx
  · rw [mP_no e6]; exact ⟨e6, fun y hy => by cases hy⟩
  · rw [mP_so e6.1 e7]; exact ⟨e7, fun y hy => by cases hy; exact ⟨e6, by omega⟩⟩
theorem mO_none {h : zz_H} {r n : Nat} {o : Option Nat} (hg : mGo h r n o) (e : mO o = -1) : o = none := by
  cases o with
  | none => rfl
  | some x => exact absurd e (nI_neg (by have := (hg x rfl).1.1; omega))
theorem mO_some {o : Option Nat} (e : ¬ mO o = -1) : ∃ x, o = some x := by
  cases o with
  | none => exact absurd rfl e
  | some x => exact ⟨x, rfl⟩
def T_M_rootOf : zz_Tr := fun as h post => ∃ r s9, as = [zz_r 7 (some r), zz_i (nI s9)] ∧ mo_ok h r ∧ mo_wl h r ∧ mLive h r s9 ∧ post (some (zz_i (nI (mAt h r 1 3 s9)))) h
set_option maxRecDepth 100000 in
set_option maxHeartbeats 4000000 in
theorem m_M_rootOf (l : Launch) : zz_Met l y_M_rootOf w_M_rootOf { frames := 1, cells := 0, slots := 0, locals := 12 } T_M_rootOf := by
  refine zz_ofZ (by decide) (fun as h post hT => ?_) ?_
  · obtain ⟨r, s9, rfl, hok, hwl, hlv, hp⟩ := hT
    exact ⟨by simp [zz_cat], by simp⟩
  · intro D DA h as post hT p e s m args below meth c Q C hr hlk hnm hQ
    obtain ⟨r, s9, rfl, hok, hwl, hlv, hp⟩ := hT
    have lp2 : ∀ n x, mLive h r x → mLv h r x ≤ n + 1 → post (some (zz_i (nI (mAt h r 1 n x)))) h → zz_Z p l e { frames := 1, cells := 0, slots := 0, locals := 12 } s m args below meth c Q D DA (zz_A h s.heap.size) h 3 2 [some (zz_r 7 (some r)), some (zz_i (nI s9)), some (zz_i (nI x))] [] h 0 0 := by
      intro n
      induction n with
      | zero =>
        intro x hlx hn hp
        have hx60 := hlx.1
        obtain ⟨-, -, -, e4, e5, e6⟩ := hwl x hlx
        have e7 : ma h r 16 x = -1 := by
          rcases e6 with e6 | ⟨p, g1, g2, g3⟩
          · exact e6.1
          · obtain ⟨-, -, -, f4, -, -⟩ := hwl p g1
            exact absurd g3 (by omega)
        refine zz_aload_n (q := 3) (f := 0) (i := 0) C (by decide +kernel) rfl rfl rfl ?_
        refine zz_getR (q := 6) C gf_M_45 (by decide +kernel) rfl rfl (hok 16 90 60 rfl).1 ?_
        refine zz_iload_n (q := 7) (f := 2) (i := 2) C (by decide +kernel) rfl rfl rfl ?_
        refine zz_iaload (q := 8) C (by decide +kernel) rfl rfl (hok 16 90 60 rfl).2 rfl (by omega) (by decide) e7 ?_
        refine zz_iconst (q := 9) (n := -1) (x := (-1)) C (by decide +kernel) rfl (by decide +kernel) ?_
        refine zz_icmp_eq (off := 13) (tgt := 22) (q := 12) C (by decide +kernel) (by decide) rfl (fun c9 => ?_) (fun c9 => absurd rfl c9)
        refine zz_iload_n (q := 23) (f := 2) (i := 2) C (by decide +kernel) rfl rfl rfl ?_
        exact zz_iret C hr hlk (by decide +kernel) hQ (by decide) (by decide) hp
      | succ n ih =>
        intro x hlx hn hp
        have hx60 := hlx.1
        obtain ⟨-, -, -, e4, e5, e6⟩ := hwl x hlx
        refine zz_aload_n (q := 3) (f := 0) (i := 0) C (by decide +kernel) rfl rfl rfl ?_
        refine zz_getR (q := 6) C gf_M_45 (by decide +kernel) rfl (by first | rfl | assumption) (hok 16 90 60 rfl).1 ?_
        refine zz_iload_n (q := 7) (f := 2) (i := 2) C (by decide +kernel) rfl rfl rfl ?_
        refine zz_iaload (q := 8) C (by decide +kernel) rfl rfl (hok 16 90 60 rfl).2 rfl (by omega) (by decide) rfl ?_
        refine zz_iconst (q := 9) (n := -1) (x := (-1)) C (by decide +kernel) rfl (by decide +kernel) ?_
        refine zz_icmp_eq (off := 13) (tgt := 22) (q := 12) C (by decide +kernel) (by decide) rfl (fun c9 => ?_) (fun c9 => ?_)
        · refine zz_iload_n (q := 23) (f := 2) (i := 2) C (by decide +kernel) rfl rfl rfl ?_
          refine zz_iret C hr hlk (by decide +kernel) hQ (by decide) (by decide) ?_
          rcases e6 with e6 | ⟨p, g1, g2, g3⟩
          · rw [mAt_le (by omega)] at hp; exact hp
          · exact absurd (g2.symm.trans c9) (nI_neg (by have := g1.1; omega))
        · obtain ⟨p9, g1, g2, g3⟩ := e6.resolve_left (fun z => c9 z.1)
          refine zz_aload_n (q := 13) (f := 0) (i := 0) C (by decide +kernel) rfl rfl rfl ?_
          refine zz_getR (q := 16) C gf_M_45 (by decide +kernel) rfl (by first | rfl | assumption) (hok 16 90 60 rfl).1 ?_
          refine zz_iload_n (q := 17) (f := 2) (i := 2) C (by decide +kernel) rfl rfl rfl ?_
          refine zz_iaload (q := 18) C (by decide +kernel) rfl rfl (hok 16 90 60 rfl).2 rfl (by omega) (by decide) g2 ?_
          refine zz_istore_n (q := 19) (f := 2) (i := 2) C (by decide +kernel) rfl rfl (by decide) rfl ?_
          refine zz_goto (off := -17) (tgt := 2) C (by decide +kernel) (by decide) ?_
          -- AT 2
          refine ih p9 g1 (by omega) ?_
          rw [mAt_go (by obtain ⟨-, -, -, f4, -, -⟩ := hwl p9 g1; omega) (mP_so g1.1 g2)] at hp
          exact hp
    refine zz_iload_n (q := 1) (f := 1) (i := 1) C (by decide +kernel) rfl rfl rfl ?_
    refine zz_istore_n (q := 2) (f := 2) (i := 2) C (by decide +kernel) rfl rfl (by decide) rfl ?_
    -- AT 2
    exact lp2 3 s9 hlv (by obtain ⟨-, -, -, -, e5, -⟩ := hwl s9 hlv; omega) hp

def T_M_atLevel : zz_Tr := fun as h post => ∃ r s9 l9, as = [zz_r 7 (some r), zz_i (nI s9), zz_i (nI l9)] ∧ 1 ≤ l9 ∧ l9 ≤ 4 ∧ mo_ok h r ∧ mo_wl h r ∧ mLive h r s9 ∧ post (some (zz_i (nI (mAt h r l9 3 s9)))) h
set_option maxRecDepth 100000 in
set_option maxHeartbeats 4000000 in
theorem m_M_atLevel (l : Launch) : zz_Met l y_M_atLevel w_M_atLevel { frames := 1, cells := 0, slots := 0, locals := 12 } T_M_atLevel := by
  refine zz_ofZ (by decide) (fun as h post hT => ?_) ?_
  · obtain ⟨r, s9, l9, rfl, hl1, hl4, hok, hwl, hlv, hp⟩ := hT
    exact ⟨by simp [zz_cat], by simp⟩
  · intro D DA h as post hT p e s m args below meth c Q C hr hlk hnm hQ
    obtain ⟨r, s9, l9, rfl, hl1, hl4, hok, hwl, hlv, hp⟩ := hT
    have lp2 : ∀ k n x, n < k → mLive h r x → mLv h r x ≤ n + 1 → post (some (zz_i (nI (mAt h r l9 n x)))) h → zz_Z p l e { frames := 1, cells := 0, slots := 0, locals := 12 } s m args below meth c Q D DA (zz_A h s.heap.size) h 4 2 [some (zz_r 7 (some r)), some (zz_i (nI s9)), some (zz_i (nI l9)), some (zz_i (nI x))] [] h 0 0 := by
      intro k
      induction k with
      | zero =>
        intro n x hn
        exact absurd hn (by omega)
      | succ k ih =>
        intro n x hn hlx hnl hp
        have hx60 := hlx.1
        obtain ⟨e1, e2, e3, e4, e5, e6⟩ := hwl x hlx
        refine zz_aload_n (q := 3) (f := 0) (i := 0) C (by decide +kernel) rfl rfl rfl ?_
        refine zz_getR (q := 6) C gf_M_17 (by decide +kernel) rfl (by first | rfl | assumption) (hok 3 90 8 rfl).1 ?_
        refine zz_aload_n (q := 7) (f := 0) (i := 0) C (by decide +kernel) rfl rfl rfl ?_
        refine zz_getR (q := 10) C gf_M_42 (by decide +kernel) rfl (by first | rfl | assumption) (hok 15 90 60 rfl).1 ?_
        refine zz_iload_n (q := 11) (f := 3) (i := 3) C (by decide +kernel) rfl rfl rfl ?_
        refine zz_iaload (q := 12) C (by decide +kernel) rfl rfl (hok 15 90 60 rfl).2 rfl (by omega) (by decide) e1 ?_
        refine zz_iaload (q := 13) C (by decide +kernel) rfl rfl (hok 3 90 8 rfl).2 rfl e2 (by decide) e3 ?_
        refine zz_iload_n (q := 14) (f := 2) (i := 2) C (by decide +kernel) rfl rfl rfl ?_
        refine zz_icmp_le (off := 13) (tgt := 27) (q := 17) C (by decide +kernel) (by decide) rfl (fun c14 => ?_) (fun c14 => ?_)
        · refine zz_iload_n (q := 28) (f := 3) (i := 3) C (by decide +kernel) rfl rfl rfl ?_
          refine zz_iret C hr hlk (by decide +kernel) hQ (by decide) (by decide) ?_
          rw [mAt_le ((nI_leI (by omega) (by omega)).mp c14)] at hp
          exact hp
        · have hlt : ¬ mLv h r x ≤ l9 := fun z => c14 (nI_le z (by omega))
          obtain ⟨p9, g1, g2, g3⟩ := e6.resolve_left (fun z => hlt (by omega))
          obtain ⟨n9, rfl⟩ : ∃ n9, n = n9 + 1 := ⟨n - 1, by omega⟩
          refine zz_aload_n (q := 18) (f := 0) (i := 0) C (by decide +kernel) rfl rfl rfl ?_
          refine zz_getR (q := 21) C gf_M_45 (by decide +kernel) rfl (by first | rfl | assumption) (hok 16 90 60 rfl).1 ?_
          refine zz_iload_n (q := 22) (f := 3) (i := 3) C (by decide +kernel) rfl rfl rfl ?_
          refine zz_iaload (q := 23) C (by decide +kernel) rfl rfl (hok 16 90 60 rfl).2 rfl (by omega) (by decide) g2 ?_
          refine zz_istore_n (q := 24) (f := 3) (i := 3) C (by decide +kernel) rfl rfl (by decide) rfl ?_
          refine zz_goto (off := -22) (tgt := 2) C (by decide +kernel) (by decide) ?_
          -- AT 2
          refine ih n9 p9 (by omega) g1 (by omega) ?_
          rw [mAt_go hlt (mP_so g1.1 g2)] at hp
          exact hp
    refine zz_iload_n (q := 1) (f := 1) (i := 1) C (by decide +kernel) rfl rfl rfl ?_
    refine zz_istore_n (q := 2) (f := 3) (i := 3) C (by decide +kernel) rfl rfl (by decide) rfl ?_
    -- AT 2
    exact lp2 4 3 s9 (by omega) hlv (by obtain ⟨-, -, -, -, e5, -⟩ := hwl s9 hlv; omega) hp

def T_M_isBelow : zz_Tr := fun as h post => ∃ r s9 p9, as = [zz_r 7 (some r), zz_i (nI s9), zz_i (nI p9)] ∧ p9 < 60 ∧ mo_ok h r ∧ mo_wl h r ∧ mLive h r s9 ∧ post (some (zz_i (zz_b (mBo h r p9 3 (mP h r s9))))) h
set_option maxRecDepth 100000 in
set_option maxHeartbeats 4000000 in
theorem m_M_isBelow (l : Launch) : zz_Met l y_M_isBelow w_M_isBelow { frames := 1, cells := 0, slots := 0, locals := 12 } T_M_isBelow := by
  refine zz_ofZ (by decide) (fun as h post hT => ?_) ?_
  · obtain ⟨r, s9, p9, rfl, hp60, hok, hwl, hlv, hp⟩ := hT
    exact ⟨by simp [zz_cat], by simp⟩
  · intro D DA h as post hT p e s m args below meth c Q C hr hlk hnm hQ
    obtain ⟨r, s9, p9, rfl, hp60, hok, hwl, hlv, hp⟩ := hT
    have hs60 := hlv.1
    have hu := mGo_up (n := 3) hwl hlv (by obtain ⟨-, -, -, -, e5, -⟩ := hwl s9 hlv; omega)
    have lp7 : ∀ n o9, mGo h r n o9 → post (some (zz_i (zz_b (mBo h r p9 n o9)))) h → zz_Z p l e { frames := 1, cells := 0, slots := 0, locals := 12 } s m args below meth c Q D DA (zz_A h s.heap.size) h 4 7 [some (zz_r 7 (some r)), some (zz_i (nI s9)), some (zz_i (nI p9)), some (zz_i (mO o9))] [] h 0 0 := by
      intro n
      induction n with
      | zero =>
        intro o9 hg hp
        have ho : o9 = none := by
          cases o9 with
          | none => rfl
          | some x =>
            obtain ⟨g1, g2⟩ := hg x rfl
            obtain ⟨-, -, -, f4, -, -⟩ := hwl x g1
            exact absurd g2 (by omega)
        subst ho
        refine zz_iload_n (q := 8) (f := 3) (i := 3) C (by decide +kernel) rfl rfl rfl ?_
        refine zz_iconst (q := 9) (n := -1) (x := (-1)) C (by decide +kernel) rfl (by decide +kernel) ?_
        refine zz_icmp_eq (off := 18) (tgt := 27) (q := 12) C (by decide +kernel) (by decide) rfl (fun c9 => ?_) (fun c9 => absurd rfl c9)
        refine zz_iload_n (q := 28) (f := 3) (i := 3) C (by decide +kernel) rfl rfl rfl ?_
        refine zz_iconst (q := 29) (n := -1) (x := (-1)) C (by decide +kernel) rfl (by decide +kernel) ?_
        refine zz_icmp_eq (off := 7) (tgt := 36) (q := 32) C (by decide +kernel) (by decide) rfl (fun c29 => ?_) (fun c29 => absurd rfl c29)
        refine zz_iconst (q := 37) (n := 0) (x := 0) C (by decide +kernel) rfl (by decide +kernel) ?_
        exact zz_zret C hr hlk (by decide +kernel) (by decide) hQ (by decide) (by decide) (zz_b0 (P := fun x => post (some (zz_i x)) h) hp (fun z => z))
      | succ n ih =>
        intro o9 hg hp
        refine zz_iload_n (q := 8) (f := 3) (i := 3) C (by decide +kernel) rfl rfl rfl ?_
        refine zz_iconst (q := 9) (n := -1) (x := (-1)) C (by decide +kernel) rfl (by decide +kernel) ?_
        refine zz_icmp_eq (off := 18) (tgt := 27) (q := 12) C (by decide +kernel) (by decide) rfl (fun c9 => ?_) (fun c9 => ?_)
        · refine zz_iload_n (q := 28) (f := 3) (i := 3) C (by decide +kernel) rfl rfl rfl ?_
          refine zz_iconst (q := 29) (n := -1) (x := (-1)) C (by decide +kernel) rfl (by decide +kernel) ?_
          refine zz_icmp_eq (off := 7) (tgt := 36) (q := 32) C (by decide +kernel) (by decide) rfl (fun c29 => ?_) (fun c29 => ?_)
          · refine zz_iconst (q := 37) (n := 0) (x := 0) C (by decide +kernel) rfl (by decide +kernel) ?_
            refine zz_zret C hr hlk (by decide +kernel) (by decide) hQ (by decide) (by decide) ?_
            first
              | exact zz_b1 (P := fun x => post (some (zz_i x)) h) hp (Or.inl ((nI_eq (by omega) (by omega)).mp c14))
              | (rw [mO_none hg c9] at hp; exact zz_b0 (P := fun x => post (some (zz_i x)) h) hp (fun z => z))
              | exact absurd c29 c9
              | exact absurd c9 c29
          · refine zz_iconst (q := 33) (n := 1) (x := 1) C (by decide +kernel) rfl (by decide +kernel) ?_
            refine zz_goto (off := 4) (tgt := 37) C (by decide +kernel) (by decide) ?_
            refine zz_zret C hr hlk (by decide +kernel) (by decide) hQ (by decide) (by decide) ?_
            first
              | exact zz_b1 (P := fun x => post (some (zz_i x)) h) hp (Or.inl ((nI_eq (by omega) (by omega)).mp c14))
              | (rw [mO_none hg c9] at hp; exact zz_b0 (P := fun x => post (some (zz_i x)) h) hp (fun z => z))
              | exact absurd c29 c9
              | exact absurd c9 c29
        · obtain ⟨x, rfl⟩ := mO_some c9
          obtain ⟨g1, g2⟩ := hg x rfl
          have hx60 := g1.1
          refine zz_iload_n (q := 13) (f := 3) (i := 3) C (by decide +kernel) rfl rfl rfl ?_
          refine zz_iload_n (q := 14) (f := 2) (i := 2) C (by decide +kernel) rfl rfl rfl ?_
          refine zz_icmp_eq (off := 13) (tgt := 27) (q := 17) C (by decide +kernel) (by decide) rfl (fun c14 => ?_) (fun c14 => ?_)
          · refine zz_iload_n (q := 28) (f := 3) (i := 3) C (by decide +kernel) rfl rfl rfl ?_
            refine zz_iconst (q := 29) (n := -1) (x := (-1)) C (by decide +kernel) rfl (by decide +kernel) ?_
            refine zz_icmp_eq (off := 7) (tgt := 36) (q := 32) C (by decide +kernel) (by decide) rfl (fun c29 => ?_) (fun c29 => ?_)
            · refine zz_iconst (q := 37) (n := 0) (x := 0) C (by decide +kernel) rfl (by decide +kernel) ?_
              refine zz_zret C hr hlk (by decide +kernel) (by decide) hQ (by decide) (by decide) ?_
              first
                | exact zz_b1 (P := fun x => post (some (zz_i x)) h) hp (Or.inl ((nI_eq (by omega) (by omega)).mp c14))
                | (rw [mO_none hg c9] at hp; exact zz_b0 (P := fun x => post (some (zz_i x)) h) hp (fun z => z))
                | exact absurd c29 c9
                | exact absurd c9 c29
            · refine zz_iconst (q := 33) (n := 1) (x := 1) C (by decide +kernel) rfl (by decide +kernel) ?_
              refine zz_goto (off := 4) (tgt := 37) C (by decide +kernel) (by decide) ?_
              refine zz_zret C hr hlk (by decide +kernel) (by decide) hQ (by decide) (by decide) ?_
              first
                | exact zz_b1 (P := fun x => post (some (zz_i x)) h) hp (Or.inl ((nI_eq (by omega) (by omega)).mp c14))
                | (rw [mO_none hg c9] at hp; exact zz_b0 (P := fun x => post (some (zz_i x)) h) hp (fun z => z))
                | exact absurd c29 c9
                | exact absurd c9 c29
          · have hu9 := mGo_up (n := n) hwl g1 g2
            refine zz_aload_n (q := 18) (f := 0) (i := 0) C (by decide +kernel) rfl rfl rfl ?_
            refine zz_getR (q := 21) C gf_M_45 (by decide +kernel) rfl (by first | rfl | assumption) (hok 16 90 60 rfl).1 ?_
            refine zz_iload_n (q := 22) (f := 3) (i := 3) C (by decide +kernel) rfl rfl rfl ?_
            refine zz_iaload (q := 23) C (by decide +kernel) rfl rfl (hok 16 90 60 rfl).2 rfl (by omega) (by decide) hu9.1 ?_
            refine zz_istore_n (q := 24) (f := 3) (i := 3) C (by decide +kernel) rfl rfl (by decide) rfl ?_
            refine zz_goto (off := -17) (tgt := 7) C (by decide +kernel) (by decide) ?_
            -- AT 7
            refine ih (mP h r x) hu9.2 ?_
            by_cases hb : mBo h r p9 n (mP h r x)
            · rw [zz_bT hb]; exact zz_b1 (P := fun x => post (some (zz_i x)) h) hp (Or.inr hb)
            · rw [zz_bF hb]; exact zz_b0 (P := fun x => post (some (zz_i x)) h) hp (fun z => z.elim (fun w => c14 (by rw [w]; rfl)) hb)
    refine zz_aload_n (q := 1) (f := 0) (i := 0) C (by decide +kernel) rfl rfl rfl ?_
    refine zz_getR (q := 4) C gf_M_45 (by decide +kernel) rfl (by first | rfl | assumption) (hok 16 90 60 rfl).1 ?_
    refine zz_iload_n (q := 5) (f := 1) (i := 1) C (by decide +kernel) rfl rfl rfl ?_
    refine zz_iaload (q := 6) C (by decide +kernel) rfl rfl (hok 16 90 60 rfl).2 rfl (by omega) (by decide) hu.1 ?_
    refine zz_istore_n (q := 7) (f := 3) (i := 3) C (by decide +kernel) rfl rfl (by decide) rfl ?_
    -- AT 7
    exact lp7 3 (mP h r s9) hu.2 hp
end
section
/-! the reference: what meets the path; root types -/
def mlow (h : zz_H) (r : Nat) : Nat → Nat
  | 0 => 0
  | n + 1 => if ma h r 22 (n + 1) = -1 then mlow h r n else n + 1
def mo_meet (h : zz_H) (r s : Nat) : Prop := mlow h r 4 = 0 ∨ (mLv h r s = mlow h r 4 ∧ mFo h r 4 (some s))
theorem mlow_le (h : zz_H) (r : Nat) : ∀ n, mlow h r n ≤ n
  | 0 => Nat.le_refl _
  | n + 1 => by
    have := mlow_le h r n
    rw [mlow]; split <;> omega
def mAb (h : zz_H) (r t : Nat) : Option Nat := if ma h r 2 t = -1 then none else some (ma h r 2 t).toNatClampNeg
theorem mAb_so {h : zz_H} {r s p : Nat} (hp : p < 60) (e : ma h r 2 s = nI p) : mAb h r s = some p := by
  rw [mAb, e, if_neg (nI_neg (by omega)), nI_clamp (by omega)]
/-- the types are well formed -/
def mo_wt (h : zz_H) (r : Nat) : Prop := ∀ t, t < 8 → ma h r 1 t ≠ 0 → ma h r 3 t = nI (mT h r t) ∧ 1 ≤ mT h r t ∧ mT h r t ≤ 4 ∧ ((ma h r 2 t = -1 ∧ mT h r t = 1) ∨ ∃ p, p < 8 ∧ ma h r 1 p ≠ 0 ∧ ma h r 2 t = nI p ∧ mT h r p + 1 = mT h r t) ∧ ∃ n, 1 ≤ n ∧ n ≤ 4 ∧ ma h r 4 t = nI n ∧ (ma h r 5 t = -1 ∨ ∃ j, j < n ∧ ma h r 5 t = nI j)
def mRt (h : zz_H) (r : Nat) : Nat → Nat → Nat
  | 0, t => t
  | n + 1, t => match mAb h r t with
    | none => t
    | some p => mRt h r n p
theorem mRt_no {h : zz_H} {r n t : Nat} (e : ma h r 2 t = -1) : mRt h r n t = t := by
  have : mAb h r t = none := if_pos e
  cases n <;> simp [mRt, this]
theorem mRt_go {h : zz_H} {r n t p : Nat} (e : mAb h r t = some p) : mRt h r (n + 1) t = mRt h r n p := by simp [mRt, e]
def T_M_fitsAbove : zz_Tr := fun as h post => ∃ r s9, as = [zz_r 7 (some r), zz_i (nI s9)] ∧ mo_ok h r ∧ mo_wl h r ∧ mo_wp h r ∧ mLive h r s9 ∧ post (some (zz_i (zz_b (mFo h r 4 (some s9))))) h
set_option maxRecDepth 100000 in
set_option maxHeartbeats 4000000 in
theorem m_M_fitsAbove (l : Launch) : zz_Met l y_M_fitsAbove w_M_fitsAbove { frames := 3, cells := 0, slots := 0, locals := 58 } T_M_fitsAbove := by
  refine zz_ofZ (by decide) (fun as h post hT => ?_) ?_
  · obtain ⟨r, s9, rfl, hok, hwl, hwp, hlv, hp⟩ := hT
    exact ⟨by simp [zz_cat], by simp⟩
  · intro D DA h as post hT p e s m args below meth c Q C hr hlk hnm hQ
    obtain ⟨r, s9, rfl, hok, hwl, hwp, hlv, hp⟩ := hT
    have lp4 : ∀ k n o9 (al : Int32), n < k → mGo h r n o9 → ((al = 0 ∧ post (some (zz_i 0)) h) ∨ (al = 1 ∧ post (some (zz_i (zz_b (mFo h r n o9)))) h)) → zz_Z p l e { frames := 3, cells := 0, slots := 0, locals := 58 } s m args below meth c Q D DA (zz_A h s.heap.size) h 4 4 [some (zz_r 7 (some r)), some (zz_i (nI s9)), some (zz_i al), some (zz_i (mO o9))] [] h 0 0 := by
      intro k
      induction k with
      | zero =>
        intro n o9 al hn
        exact absurd hn (by omega)
      | succ k ih =>
        intro n o9 al hn hg hal
        refine zz_iload_n (q := 5) (f := 3) (i := 3) C (by decide +kernel) rfl rfl rfl ?_
        refine zz_iconst (q := 6) (n := -1) (x := (-1)) C (by decide +kernel) rfl (by decide +kernel) ?_
        refine zz_icmp_eq (off := 23) (tgt := 29) (q := 9) C (by decide +kernel) (by decide) rfl (fun c6 => ?_) (fun c6 => ?_)
        · refine zz_iload_n (q := 30) (f := 2) (i := 2) C (by decide +kernel) rfl rfl rfl ?_
          refine zz_zret C hr hlk (by decide +kernel) (hal.elim (fun z => Or.inl z.1) (fun z => Or.inr z.1)) hQ (by decide) (by decide) ?_
          rcases hal with ⟨h1, h2⟩ | ⟨h1, h2⟩
          · rw [h1]; exact h2
          · first
              | exact absurd (h1.symm.trans c10) (by decide)
              | (rw [mO_none hg c6] at h2; rw [h1]; exact zz_b1 (P := fun x => post (some (zz_i x)) h) h2 (by cases n <;> trivial))
        · refine zz_iload_n (q := 10) (f := 2) (i := 2) C (by decide +kernel) rfl rfl rfl ?_
          refine zz_if_eq (off := 19) (tgt := 29) (q := 13) C (by decide +kernel) (by decide) rfl (fun c10 => ?_) (fun c10 => ?_)
          · refine zz_iload_n (q := 30) (f := 2) (i := 2) C (by decide +kernel) rfl rfl rfl ?_
            refine zz_zret C hr hlk (by decide +kernel) (hal.elim (fun z => Or.inl z.1) (fun z => Or.inr z.1)) hQ (by decide) (by decide) ?_
            rcases hal with ⟨h1, h2⟩ | ⟨h1, h2⟩
            · rw [h1]; exact h2
            · first
                | exact absurd (h1.symm.trans c10) (by decide)
                | (rw [mO_none hg c6] at h2; rw [h1]; exact zz_b1 (P := fun x => post (some (zz_i x)) h) h2 (by cases n <;> trivial))
          · obtain ⟨x, rfl⟩ := mO_some c6
            obtain ⟨g1, g2⟩ := hg x rfl
            have hx60 := g1.1
            obtain ⟨n9, rfl⟩ : ∃ n9, n = n9 + 1 := ⟨n - 1, by obtain ⟨-, -, -, f4, -, -⟩ := hwl x g1; omega⟩
            have hu9 := mGo_up (n := n9) hwl g1 g2
            have h2 := (hal.resolve_left (fun z => c10 z.1)).2
            refine zz_aload_n (q := 14) (f := 0) (i := 0) C (by decide +kernel) rfl rfl rfl ?_
            refine zz_iload_n (q := 15) (f := 3) (i := 3) C (by decide +kernel) rfl rfl rfl ?_
            refine zz_callV (q := 18) C (m_M_fits l) cv_M_112 (by decide +kernel) rfl rfl rfl (by first | rfl | assumption) (by decide) (by decide) (Nat.le_of_ble_eq_true rfl) ⟨_, _, rfl, hok, hwl, hwp, g1, ?_⟩
            refine zz_istore_n (q := 19) (f := 2) (i := 2) C (by decide +kernel) rfl rfl (by decide) rfl ?_
            refine zz_aload_n (q := 20) (f := 0) (i := 0) C (by decide +kernel) rfl rfl rfl ?_
            refine zz_getR (q := 23) C gf_M_45 (by decide +kernel) rfl (by first | rfl | assumption) (hok 16 90 60 rfl).1 ?_
            refine zz_iload_n (q := 24) (f := 3) (i := 3) C (by decide +kernel) rfl rfl rfl ?_
            refine zz_iaload (q := 25) C (by decide +kernel) rfl rfl (hok 16 90 60 rfl).2 rfl (by omega) (by decide) hu9.1 ?_
            refine zz_istore_n (q := 26) (f := 3) (i := 3) C (by decide +kernel) rfl rfl (by decide) rfl ?_
            refine zz_goto (off := -22) (tgt := 4) C (by decide +kernel) (by decide) ?_
            -- AT 4
            refine ih n9 (mP h r x) _ (by omega) hu9.2 ?_
            by_cases hf : mo_fit h r x
            · refine Or.inr ⟨zz_bT hf, ?_⟩
              by_cases hb : mFo h r n9 (mP h r x)
              · rw [zz_bT hb]; exact zz_b1 (P := fun x => post (some (zz_i x)) h) h2 ⟨hf, hb⟩
              · rw [zz_bF hb]; exact zz_b0 (P := fun x => post (some (zz_i x)) h) h2 (fun z => hb z.2)
            · exact Or.inl ⟨zz_bF hf, zz_b0 (P := fun x => post (some (zz_i x)) h) h2 (fun z => hf z.1)⟩
    refine zz_iconst (q := 1) (n := 1) (x := 1) C (by decide +kernel) rfl (by decide +kernel) ?_
    refine zz_istore_n (q := 2) (f := 2) (i := 2) C (by decide +kernel) rfl rfl (by decide) rfl ?_
    refine zz_iload_n (q := 3) (f := 1) (i := 1) C (by decide +kernel) rfl rfl rfl ?_
    refine zz_istore_n (q := 4) (f := 3) (i := 3) C (by decide +kernel) rfl rfl (by decide) rfl ?_
    -- AT 4
    exact lp4 5 4 (some s9) 1 (by omega) (fun x hx => by cases hx; exact ⟨hlv, by obtain ⟨-, -, -, -, e5, -⟩ := hwl s9 hlv; omega⟩) (Or.inr ⟨rfl, hp⟩)

def T_M_meets : zz_Tr := fun as h post => ∃ r s9, as = [zz_r 7 (some r), zz_i (nI s9)] ∧ mo_ok h r ∧ mo_wl h r ∧ mo_wp h r ∧ mLive h r s9 ∧ post (some (zz_i (zz_b (mo_meet h r s9)))) h
set_option maxRecDepth 100000 in
set_option maxHeartbeats 4000000 in
theorem m_M_meets (l : Launch) : zz_Met l y_M_meets w_M_meets { frames := 4, cells := 0, slots := 0, locals := 81 } T_M_meets := by
  refine zz_ofZ (by decide) (fun as h post hT => ?_) ?_
  · obtain ⟨r, s9, rfl, hok, hwl, hwp, hlv, hp⟩ := hT
    exact ⟨by simp [zz_cat], by simp⟩
  · intro D DA h as post hT p e s m args below meth c Q C hr hlk hnm hQ
    obtain ⟨r, s9, rfl, hok, hwl, hwp, hlv, hp⟩ := hT
    have hs60 := hlv.1
    obtain ⟨e1, e2, e3, e4, e5, -⟩ := hwl s9 hlv
    have lp4 : ∀ n l9, 6 ≤ n + l9 → l9 ≤ 4 → zz_Z p l e { frames := 4, cells := 0, slots := 0, locals := 81 } s m args below meth c Q D DA (zz_A h s.heap.size) h 4 4 [some (zz_r 7 (some r)), some (zz_i (nI s9)), some (zz_i (nI (mlow h r l9))), some (zz_i (nI (l9 + 1)))] [] h 0 0 := by
      intro n
      induction n with
      | zero =>
        intro l9 hn hl
        exact absurd hn (by omega)
      | succ n ih =>
        intro l9 hn hl
        have hlow := mlow_le h r l9
        refine zz_iload_n (q := 5) (f := 3) (i := 3) C (by decide +kernel) rfl rfl rfl ?_
        refine zz_iconst (q := 6) (n := 5) (x := 5) C (by decide +kernel) rfl (by decide +kernel) ?_
        refine zz_icmp_ge (off := 25) (tgt := 31) (q := 9) C (by decide +kernel) (by decide) rfl (fun c6 => ?_) (fun c6 => ?_)
        · have hl4 : l9 = 4 := by
            have := (nI_leI (a := 5) (b := l9 + 1) (by omega) (by omega)).mp c6
            omega
          subst hl4
          refine zz_iload_n (q := 32) (f := 2) (i := 2) C (by decide +kernel) rfl rfl rfl ?_
          refine zz_if_eq (off := 26) (tgt := 58) (q := 35) C (by decide +kernel) (by decide) rfl (fun c32 => ?_) (fun c32 => ?_)
          · refine zz_iconst (q := 59) (n := 1) (x := 1) C (by decide +kernel) rfl (by decide +kernel) ?_
            refine zz_goto (off := 4) (tgt := 63) C (by decide +kernel) (by decide) ?_
            refine zz_zret C hr hlk (by decide +kernel) (by decide) hQ (by decide) (by decide) ?_
            first
              | exact zz_b1 (P := fun x => post (some (zz_i x)) h) hp (Or.inl ((nI_eq (b := 0) (by omega) (by decide)).mp c32))
              | exact zz_b1 (P := fun x => post (some (zz_i x)) h) hp (Or.inr ⟨(nI_eq (by omega) (by omega)).mp c47, zz_b_t c55⟩)
              | exact zz_b0 (P := fun x => post (some (zz_i x)) h) hp (fun z => z.elim (fun w => c32 (by rw [w]; rfl)) (fun w => c47 (by rw [w.1])))
              | exact zz_b0 (P := fun x => post (some (zz_i x)) h) hp (fun z => z.elim (fun w => c32 (by rw [w]; rfl)) (fun w => zz_b_f c55 w.2))
          · refine zz_aload_n (q := 36) (f := 0) (i := 0) C (by decide +kernel) rfl rfl rfl ?_
            refine zz_getR (q := 39) C gf_M_17 (by decide +kernel) rfl (by first | rfl | assumption) (hok 3 90 8 rfl).1 ?_
            refine zz_aload_n (q := 40) (f := 0) (i := 0) C (by decide +kernel) rfl rfl rfl ?_
            refine zz_getR (q := 43) C gf_M_42 (by decide +kernel) rfl (by first | rfl | assumption) (hok 15 90 60 rfl).1 ?_
            refine zz_iload_n (q := 44) (f := 1) (i := 1) C (by decide +kernel) rfl rfl rfl ?_
            refine zz_iaload (q := 45) C (by decide +kernel) rfl rfl (hok 15 90 60 rfl).2 rfl (by omega) (by decide) e1 ?_
            refine zz_iaload (q := 46) C (by decide +kernel) rfl rfl (hok 3 90 8 rfl).2 rfl e2 (by decide) e3 ?_
            refine zz_iload_n (q := 47) (f := 2) (i := 2) C (by decide +kernel) rfl rfl rfl ?_
            refine zz_icmp_ne (off := 15) (tgt := 62) (q := 50) C (by decide +kernel) (by decide) rfl (fun c47 => ?_) (fun c47 => ?_)
            · refine zz_iconst (q := 63) (n := 0) (x := 0) C (by decide +kernel) rfl (by decide +kernel) ?_
              refine zz_zret C hr hlk (by decide +kernel) (by decide) hQ (by decide) (by decide) ?_
              first
                | exact zz_b1 (P := fun x => post (some (zz_i x)) h) hp (Or.inl ((nI_eq (b := 0) (by omega) (by decide)).mp c32))
                | exact zz_b1 (P := fun x => post (some (zz_i x)) h) hp (Or.inr ⟨(nI_eq (by omega) (by omega)).mp c47, zz_b_t c55⟩)
                | exact zz_b0 (P := fun x => post (some (zz_i x)) h) hp (fun z => z.elim (fun w => c32 (by rw [w]; rfl)) (fun w => c47 (by rw [w.1])))
                | exact zz_b0 (P := fun x => post (some (zz_i x)) h) hp (fun z => z.elim (fun w => c32 (by rw [w]; rfl)) (fun w => zz_b_f c55 w.2))
            · refine zz_aload_n (q := 51) (f := 0) (i := 0) C (by decide +kernel) rfl rfl rfl ?_
              refine zz_iload_n (q := 52) (f := 1) (i := 1) C (by decide +kernel) rfl rfl rfl ?_
              refine zz_callV (q := 55) C (m_M_fitsAbove l) cv_M_115 (by decide +kernel) rfl rfl rfl (by first | rfl | assumption) (by decide) (by decide) (Nat.le_of_ble_eq_true rfl) ⟨_, _, rfl, hok, hwl, hwp, hlv, ?_⟩
              refine zz_if_eq (off := 7) (tgt := 62) (q := 58) C (by decide +kernel) (by decide) rfl (fun c55 => ?_) (fun c55 => ?_)
              · refine zz_iconst (q := 63) (n := 0) (x := 0) C (by decide +kernel) rfl (by decide +kernel) ?_
                refine zz_zret C hr hlk (by decide +kernel) (by decide) hQ (by decide) (by decide) ?_
                first
                  | exact zz_b1 (P := fun x => post (some (zz_i x)) h) hp (Or.inl ((nI_eq (b := 0) (by omega) (by decide)).mp c32))
                  | exact zz_b1 (P := fun x => post (some (zz_i x)) h) hp (Or.inr ⟨(nI_eq (by omega) (by omega)).mp c47, zz_b_t c55⟩)
                  | exact zz_b0 (P := fun x => post (some (zz_i x)) h) hp (fun z => z.elim (fun w => c32 (by rw [w]; rfl)) (fun w => c47 (by rw [w.1])))
                  | exact zz_b0 (P := fun x => post (some (zz_i x)) h) hp (fun z => z.elim (fun w => c32 (by rw [w]; rfl)) (fun w => zz_b_f c55 w.2))
              · refine zz_iconst (q := 59) (n := 1) (x := 1) C (by decide +kernel) rfl (by decide +kernel) ?_
                refine zz_goto (off := 4) (tgt := 63) C (by decide +kernel) (by decide) ?_
                refine zz_zret C hr hlk (by decide +kernel) (by decide) hQ (by decide) (by decide) ?_
                first
                  | exact zz_b1 (P := fun x => post (some (zz_i x)) h) hp (Or.inl ((nI_eq (b := 0) (by omega) (by decide)).mp c32))
                  | exact zz_b1 (P := fun x => post (some (zz_i x)) h) hp (Or.inr ⟨(nI_eq (by omega) (by omega)).mp c47, zz_b_t c55⟩)
                  | exact zz_b0 (P := fun x => post (some (zz_i x)) h) hp (fun z => z.elim (fun w => c32 (by rw [w]; rfl)) (fun w => c47 (by rw [w.1])))
                  | exact zz_b0 (P := fun x => post (some (zz_i x)) h) hp (fun z => z.elim (fun w => c32 (by rw [w]; rfl)) (fun w => zz_b_f c55 w.2))
        · have hl3 : l9 + 1 < 5 := Nat.lt_of_not_le (fun z => c6 (nI_le z (by omega)))
          refine zz_aload_n (q := 10) (f := 0) (i := 0) C (by decide +kernel) rfl rfl rfl ?_
          refine zz_getR (q := 13) C gf_M_64 (by decide +kernel) rfl (by first | rfl | assumption) (hok 22 90 5 rfl).1 ?_
          refine zz_iload_n (q := 14) (f := 3) (i := 3) C (by decide +kernel) rfl rfl rfl ?_
          refine zz_iaload (q := 15) C (by decide +kernel) rfl rfl (hok 22 90 5 rfl).2 rfl (by omega) (by decide) rfl ?_
          refine zz_iconst (q := 16) (n := -1) (x := (-1)) C (by decide +kernel) rfl (by decide +kernel) ?_
          refine zz_icmp_ne (off := 7) (tgt := 23) (q := 19) C (by decide +kernel) (by decide) rfl (fun c16 => ?_) (fun c16 => ?_)
          · refine zz_iload_n (q := 24) (f := 3) (i := 3) C (by decide +kernel) rfl rfl rfl ?_
            refine zz_istore_n (q := 25) (f := 2) (i := 2) C (by decide +kernel) rfl rfl (by decide) rfl ?_
            refine zz_iinc (q := 28) (i := 3) (n := 1) C (by decide +kernel) rfl rfl (nI_1 _) (by decide) rfl ?_
            refine zz_goto (off := -24) (tgt := 4) C (by decide +kernel) (by decide) ?_
            -- AT 4
            have ih9 := ih (l9 + 1) (by omega) (by omega)
            first
              | (rw [show mlow h r (l9 + 1) = l9 + 1 from if_neg c16] at ih9; exact ih9)
              | (rw [show mlow h r (l9 + 1) = mlow h r l9 from if_pos c16] at ih9; exact ih9)
          · refine zz_iload_n (q := 20) (f := 2) (i := 2) C (by decide +kernel) rfl rfl rfl ?_
            refine zz_goto (off := 4) (tgt := 24) C (by decide +kernel) (by decide) ?_
            refine zz_istore_n (q := 25) (f := 2) (i := 2) C (by decide +kernel) rfl rfl (by decide) rfl ?_
            refine zz_iinc (q := 28) (i := 3) (n := 1) C (by decide +kernel) rfl rfl (nI_1 _) (by decide) rfl ?_
            refine zz_goto (off := -24) (tgt := 4) C (by decide +kernel) (by decide) ?_
            -- AT 4
            have ih9 := ih (l9 + 1) (by omega) (by omega)
            first
              | (rw [show mlow h r (l9 + 1) = l9 + 1 from if_neg c16] at ih9; exact ih9)
              | (rw [show mlow h r (l9 + 1) = mlow h r l9 from if_pos c16] at ih9; exact ih9)
    refine zz_iconst (q := 1) (n := 0) (x := 0) C (by decide +kernel) rfl (by decide +kernel) ?_
    refine zz_istore_n (q := 2) (f := 2) (i := 2) C (by decide +kernel) rfl rfl (by decide) rfl ?_
    refine zz_iconst (q := 3) (n := 1) (x := 1) C (by decide +kernel) rfl (by decide +kernel) ?_
    refine zz_istore_n (q := 4) (f := 3) (i := 3) C (by decide +kernel) rfl rfl (by decide) rfl ?_
    -- AT 4
    exact lp4 6 0 (by omega) (by omega)

def T_M_rootType : zz_Tr := fun as h post => ∃ r t9, as = [zz_r 7 (some r), zz_i (nI t9)] ∧ mo_ok h r ∧ mo_wt h r ∧ t9 < 8 ∧ ma h r 1 t9 ≠ 0 ∧ post (some (zz_i (nI (mRt h r 3 t9)))) h
set_option maxRecDepth 100000 in
set_option maxHeartbeats 4000000 in
theorem m_M_rootType (l : Launch) : zz_Met l y_M_rootType w_M_rootType { frames := 1, cells := 0, slots := 0, locals := 12 } T_M_rootType := by
  refine zz_ofZ (by decide) (fun as h post hT => ?_) ?_
  · obtain ⟨r, t9, rfl, hok, hwt, ht8, hd, hp⟩ := hT
    exact ⟨by simp [zz_cat], by simp⟩
  · intro D DA h as post hT p e s m args below meth c Q C hr hlk hnm hQ
    obtain ⟨r, t9, rfl, hok, hwt, ht8, hd, hp⟩ := hT
    have lp2 : ∀ k n x, n < k → x < 8 → ma h r 1 x ≠ 0 → mT h r x ≤ n + 1 → post (some (zz_i (nI (mRt h r n x)))) h → zz_Z p l e { frames := 1, cells := 0, slots := 0, locals := 12 } s m args below meth c Q D DA (zz_A h s.heap.size) h 3 2 [some (zz_r 7 (some r)), some (zz_i (nI t9)), some (zz_i (nI x))] [] h 0 0 := by
      intro k
      induction k with
      | zero =>
        intro n x hn
        exact absurd hn (by omega)
      | succ k ih =>
        intro n x hn hx8 hdx hnl hp
        obtain ⟨-, e4, e5, e6, -⟩ := hwt x hx8 hdx
        refine zz_aload_n (q := 3) (f := 0) (i := 0) C (by decide +kernel) rfl rfl rfl ?_
        refine zz_getR (q := 6) C gf_M_13 (by decide +kernel) rfl (by first | rfl | assumption) (hok 2 90 8 rfl).1 ?_
        refine zz_iload_n (q := 7) (f := 2) (i := 2) C (by decide +kernel) rfl rfl rfl ?_
        refine zz_iaload (q := 8) C (by decide +kernel) rfl rfl (hok 2 90 8 rfl).2 rfl (by omega) (by decide) rfl ?_
        refine zz_iconst (q := 9) (n := -1) (x := (-1)) C (by decide +kernel) rfl (by decide +kernel) ?_
        refine zz_icmp_eq (off := 13) (tgt := 22) (q := 12) C (by decide +kernel) (by decide) rfl (fun c9 => ?_) (fun c9 => ?_)
        · refine zz_iload_n (q := 23) (f := 2) (i := 2) C (by decide +kernel) rfl rfl rfl ?_
          refine zz_iret C hr hlk (by decide +kernel) hQ (by decide) (by decide) ?_
          rw [mRt_no c9] at hp
          exact hp
        · obtain ⟨p9, g1, g2, g3, g4⟩ := e6.resolve_left (fun z => c9 z.1)
          obtain ⟨-, f4, -, -, -⟩ := hwt p9 g1 g2
          obtain ⟨n9, rfl⟩ : ∃ n9, n = n9 + 1 := ⟨n - 1, by omega⟩
          refine zz_aload_n (q := 13) (f := 0) (i := 0) C (by decide +kernel) rfl rfl rfl ?_
          refine zz_getR (q := 16) C gf_M_13 (by decide +kernel) rfl (by first | rfl | assumption) (hok 2 90 8 rfl).1 ?_
          refine zz_iload_n (q := 17) (f := 2) (i := 2) C (by decide +kernel) rfl rfl rfl ?_
          refine zz_iaload (q := 18) C (by decide +kernel) rfl rfl (hok 2 90 8 rfl).2 rfl (by omega) (by decide) g3 ?_
          refine zz_istore_n (q := 19) (f := 2) (i := 2) C (by decide +kernel) rfl rfl (by decide) rfl ?_
          refine zz_goto (off := -17) (tgt := 2) C (by decide +kernel) (by decide) ?_
          -- AT 2
          refine ih n9 p9 (by omega) g1 g2 (by omega) ?_
          rw [mRt_go (mAb_so (by omega) g3)] at hp
          exact hp
    refine zz_iload_n (q := 1) (f := 1) (i := 1) C (by decide +kernel) rfl rfl rfl ?_
    refine zz_istore_n (q := 2) (f := 2) (i := 2) C (by decide +kernel) rfl rfl (by decide) rfl ?_
    -- AT 2
    exact lp2 4 3 t9 (by omega) ht8 hd (by obtain ⟨-, -, e5, -⟩ := hwt t9 ht8 hd; omega) hp
end
section
/-! the reference: values by the second order -/
def mo_ly (h : zz_H) (y : Nat → Nat → Int64) : zz_H := (h.1, h.2.1, h.2.2.1, h.2.2.2.1, h.2.2.2.2.1, y)
def mB40 : Int64 := 1099511627776
def mOf (h : zz_H) (r s x : Nat) : Prop := mLive h r s ∧ ma h r 15 s = zz_fI h 7 9 r ∧ mAt h r 1 3 s = x
def mWv (h : zz_H) (r sw s : Nat) : Int64 := (ma h r 18 (4 * s + sw)).toInt64
def mVl (h : zz_H) (r sw i : Nat) (y : Nat → Nat → Int64) : Prop := (∀ b j, b ≠ mf h r 20 → y b j = zz_aL h b j) ∧ ∀ x, x < 60 → ((∀ s, s < i → ¬ mOf h r s x) → y (mf h r 20) x = mB40) ∧ (∀ s, s < i → mOf h r s x → y (mf h r 20) x ≤ mWv h r sw s) ∧ ((∃ s, s < i ∧ mOf h r s x) → ∃ s, s < i ∧ mOf h r s x ∧ y (mf h r 20) x = mWv h r sw s)
theorem mB40_lt (x : Int32) : x.toInt64 < mB40 := by
  rw [Int64.lt_iff_toInt_lt, Int32.toInt_toInt64]
  have h1 : mB40.toInt = 1099511627776 := by decide +kernel
  have h2 := Int32.toInt_lt x
  rw [h1]; omega
theorem mAt_live {h : zz_H} {r l : Nat} (hwl : mo_wl h r) : ∀ n s, mLive h r s → mLive h r (mAt h r l n s)
  | 0, s, hs => hs
  | n + 1, s, hs => by
    rw [mAt]
    by_cases hl : mLv h r s ≤ l
    · rw [if_pos hl]; exact hs
    · rw [if_neg hl]
      obtain ⟨-, -, -, -, -, ⟨e6, -⟩ | ⟨p, e6, e7, -⟩⟩ := hwl s hs
      · rw [mP_no e6]; exact hs
      · rw [mP_so e6.1 e7]; exact mAt_live hwl n p e6
theorem mVl_no {h : zz_H} {r sw i : Nat} {y : Nat → Nat → Int64} (hv : mVl h r sw i y) (hn : ∀ x, ¬ mOf h r i x) : mVl h r sw (i + 1) y := by
  refine ⟨hv.1, fun x hx => ?_⟩
  obtain ⟨h1, h2, h3⟩ := hv.2 x hx
  refine ⟨fun hz => h1 (fun s hs => hz s (by omega)), fun s hs hz => ?_, fun ⟨s, hs, hz⟩ => ?_⟩
  · rcases Nat.lt_succ_iff_lt_or_eq.mp hs with hs | rfl
    · exact h2 s hs hz
    · exact absurd hz (hn x)
  · rcases Nat.lt_succ_iff_lt_or_eq.mp hs with hs | rfl
    · obtain ⟨s', g1, g2⟩ := h3 ⟨s, hs, hz⟩
      exact ⟨s', by omega, g2⟩
    · exact absurd hz (hn x)
theorem mVl_of {h : zz_H} {r sw i x0 : Nat} {y : Nat → Nat → Int64} {v : Int64} (hv : mVl h r sw i y) (hx0 : x0 < 60) (ho : mOf h r i x0) (hc : (mWv h r sw i < y (mf h r 20) x0 ∧ v = mWv h r sw i) ∨ (y (mf h r 20) x0 ≤ mWv h r sw i ∧ v = y (mf h r 20) x0)) : mVl h r sw (i + 1) (fun b j => if b = mf h r 20 ∧ j = x0 then v else y b j) := by
  refine ⟨fun b j hb => ?_, fun x hx => ?_⟩
  · show (if b = mf h r 20 ∧ j = x0 then v else y b j) = _
    rw [if_neg (fun z => hb z.1)]; exact hv.1 b j hb
  · obtain ⟨h1, h2, h3⟩ := hv.2 x hx
    dsimp only
    by_cases hxx : x = x0
    · subst hxx
      have e : (if mf h r 20 = mf h r 20 ∧ x = x then v else y (mf h r 20) x) = v := if_pos ⟨rfl, rfl⟩
      rw [e]
      refine ⟨fun hz => absurd ho (hz i (by omega)), fun s hs hz => ?_, fun _ => ?_⟩
      · rcases Nat.lt_succ_iff_lt_or_eq.mp hs with hs | rfl
        · rcases hc with ⟨g1, g2⟩ | ⟨g1, g2⟩
          · rw [g2]; exact Int64.le_trans (Int64.le_of_lt g1) (h2 s hs hz)
          · rw [g2]; exact h2 s hs hz
        · rcases hc with ⟨g1, g2⟩ | ⟨g1, g2⟩
          · rw [g2]; exact Int64.le_refl _
          · rw [g2]; exact g1
      · rcases hc with ⟨g1, g2⟩ | ⟨g1, g2⟩
        · exact ⟨i, by omega, ho, g2⟩
        · by_cases hex : ∃ s, s < i ∧ mOf h r s x
          · obtain ⟨s, k1, k2, k3⟩ := h3 hex
            exact ⟨s, by omega, k2, g2.trans k3⟩
          · have k1 := h1 (fun s hs hz => hex ⟨s, hs, hz⟩)
            rw [k1] at g1
            exact absurd (mB40_lt _) (Int64.not_lt.mpr g1)
    · have e : (if mf h r 20 = mf h r 20 ∧ x = x0 then v else y (mf h r 20) x) = y (mf h r 20) x := if_neg (fun z => hxx z.2)
      rw [e]
      refine ⟨fun hz => h1 (fun s hs => hz s (by omega)), fun s hs hz => ?_, fun ⟨s, hs, hz⟩ => ?_⟩
      · rcases Nat.lt_succ_iff_lt_or_eq.mp hs with hs | rfl
        · exact h2 s hs hz
        · exact absurd (hz.2.2.symm.trans ho.2.2) hxx
      · rcases Nat.lt_succ_iff_lt_or_eq.mp hs with hs | rfl
        · obtain ⟨s', g1, g2⟩ := h3 ⟨s, hs, hz⟩
          exact ⟨s', by omega, g2⟩
        · exact absurd (hz.2.2.symm.trans ho.2.2) hxx
def T_M_findValues : zz_Tr := fun as h post => ∃ r sw, as = [zz_r 7 (some r)] ∧ sw < 4 ∧ (zz_fI h 7 9 r ≠ -1 → zz_fI h 7 10 r = nI sw) ∧ mo_ok h r ∧ mo_wl h r ∧ ∀ y, mVl h r sw 60 y → post none (mo_ly h y)
set_option maxRecDepth 100000 in
set_option maxHeartbeats 4000000 in
theorem m_M_findValues (l : Launch) : zz_Met l y_M_findValues w_M_findValues { frames := 2, cells := 0, slots := 0, locals := 34 } T_M_findValues := by
  refine zz_ofZ (by decide) (fun as h post hT => ?_) ?_
  · obtain ⟨r, sw, rfl, hsw, hse, hok, hwl, hp⟩ := hT
    exact ⟨by simp [zz_cat], by simp⟩
  · intro D DA h as post hT p e s m args below meth c Q C hr hlk hnm hQ
    obtain ⟨r, sw, rfl, hsw, hse, hok, hwl, hp⟩ := hT
    have lp25 : ∀ n i v7 v8 v9 y, 61 ≤ n + i → i ≤ 60 → mVl h r sw i y → zz_Z p l e { frames := 2, cells := 0, slots := 0, locals := 34 } s m args below meth c Q D DA (zz_A h s.heap.size) h 5 25 [some (zz_r 7 (some r)), some (zz_i (nI i)), v7, v8, v9] [] (mo_ly h y) 0 0 := by
      intro n
      induction n with
      | zero =>
        intro i v7 v8 v9 y hn hi
        exact absurd hn (by omega)
      | succ n ih =>
        intro i v7 v8 v9 y hn hile hv
        refine zz_iload_n (q := 26) (f := 1) (i := 1) C (by decide +kernel) rfl rfl rfl ?_
        refine zz_bipush (q := 28) (n := 60) (x := 60) C (by decide +kernel) rfl (by decide +kernel) ?_
        refine zz_icmp_ge (off := 79) (tgt := 107) (q := 31) C (by decide +kernel) (by decide) rfl (fun c28 => ?_) (fun c28 => ?_)
        · refine zz_vret C hr hlk (by decide +kernel) hQ (by decide) (by decide) ?_
          have he : i = 60 := by
            have := ((nI_leI (a := 60) (b := i) (by decide) (by omega)).mp c28)
            omega
          exact hp y (he ▸ hv)
        · have hi : i < 60 := Nat.lt_of_not_le (fun z => c28 (nI_le (a := 60) z (by omega)))
          refine zz_aload_n (q := 32) (f := 0) (i := 0) C (by decide +kernel) rfl rfl rfl ?_
          refine zz_getR (q := 35) C gf_M_39 (by decide +kernel) rfl (by first | rfl | assumption) (hok 14 90 60 rfl).1 ?_
          refine zz_iload_n (q := 36) (f := 1) (i := 1) C (by decide +kernel) rfl rfl rfl ?_
          refine zz_iaload (q := 37) C (by decide +kernel) rfl rfl (hok 14 90 60 rfl).2 rfl (by omega) (by decide) rfl ?_
          refine zz_if_le (off := 64) (tgt := 101) (q := 40) C (by decide +kernel) (by decide) rfl (fun c37 => ?_) (fun c37 => ?_)
          · refine zz_iinc (q := 104) (i := 1) (n := 1) C (by decide +kernel) rfl rfl (nI_1 _) (by decide) rfl ?_
            refine zz_goto (off := -79) (tgt := 25) C (by decide +kernel) (by decide) ?_
            -- AT 25
            first
              | exact ih (i + 1) _ _ _ _ (by omega) (by omega) (mVl_of hv hx60 hof (Or.inr ⟨(lg_cmp_ge _ _).mp c87, rfl⟩))
              | exact ih (i + 1) _ _ _ _ (by omega) (by omega) (mVl_of hv hx60 hof (Or.inl ⟨Int64.not_le.mp (fun z => c87 ((lg_cmp_ge _ _).mpr z)), rfl⟩))
              | exact ih (i + 1) _ _ _ _ (by omega) (by omega) (mVl_no hv (fun x z => absurd z.1.2 (Int32.not_lt.mpr c37)))
              | exact ih (i + 1) _ _ _ _ (by omega) (by omega) (mVl_no hv (fun x z => c50 z.2.1))
          · have hlv : mLive h r i := ⟨hi, Int32.not_le.mp c37⟩
            obtain ⟨e1, e2, e3, e4, e5, -⟩ := hwl i hlv
            refine zz_aload_n (q := 41) (f := 0) (i := 0) C (by decide +kernel) rfl rfl rfl ?_
            refine zz_getR (q := 44) C gf_M_42 (by decide +kernel) rfl (by first | rfl | assumption) (hok 15 90 60 rfl).1 ?_
            refine zz_iload_n (q := 45) (f := 1) (i := 1) C (by decide +kernel) rfl rfl rfl ?_
            refine zz_iaload (q := 46) C (by decide +kernel) rfl rfl (hok 15 90 60 rfl).2 rfl (by omega) (by decide) rfl ?_
            refine zz_aload_n (q := 47) (f := 0) (i := 0) C (by decide +kernel) rfl rfl rfl ?_
            refine zz_getI (q := 50) C gf_M_35 (by decide +kernel) rfl (by first | rfl | assumption) rfl ?_
            refine zz_icmp_ne (off := 51) (tgt := 101) (q := 53) C (by decide +kernel) (by decide) rfl (fun c50 => ?_) (fun c50 => ?_)
            · refine zz_iinc (q := 104) (i := 1) (n := 1) C (by decide +kernel) rfl rfl (nI_1 _) (by decide) rfl ?_
              refine zz_goto (off := -79) (tgt := 25) C (by decide +kernel) (by decide) ?_
              -- AT 25
              first
                | exact ih (i + 1) _ _ _ _ (by omega) (by omega) (mVl_of hv hx60 hof (Or.inr ⟨(lg_cmp_ge _ _).mp c87, rfl⟩))
                | exact ih (i + 1) _ _ _ _ (by omega) (by omega) (mVl_of hv hx60 hof (Or.inl ⟨Int64.not_le.mp (fun z => c87 ((lg_cmp_ge _ _).mpr z)), rfl⟩))
                | exact ih (i + 1) _ _ _ _ (by omega) (by omega) (mVl_no hv (fun x z => absurd z.1.2 (Int32.not_lt.mpr c37)))
                | exact ih (i + 1) _ _ _ _ (by omega) (by omega) (mVl_no hv (fun x z => c50 z.2.1))
            · have hne : zz_fI h 7 9 r ≠ -1 := fun z => nI_neg (x := mK h r i) (by omega) (e1.symm.trans (c50.trans z))
              have hx0 := mAt_live (l := 1) hwl 3 i hlv
              have hx60 := hx0.1
              have hof : mOf h r i (mAt h r 1 3 i) := ⟨hlv, c50, rfl⟩
              refine zz_aload_n (q := 54) (f := 0) (i := 0) C (by decide +kernel) rfl rfl rfl ?_
              refine zz_iload_n (q := 55) (f := 1) (i := 1) C (by decide +kernel) rfl rfl rfl ?_
              refine zz_callV (q := 58) C (m_M_rootOf l) cv_M_120 (by decide +kernel) rfl rfl rfl (by first | rfl | assumption) (by decide) (by decide) (Nat.le_of_ble_eq_true rfl) ⟨_, _, rfl, hok, hwl, hlv, ?_⟩
              refine zz_istore_n (q := 59) (f := 2) (i := 2) C (by decide +kernel) rfl rfl (by decide) rfl ?_
              refine zz_aload_n (q := 60) (f := 0) (i := 0) C (by decide +kernel) rfl rfl rfl ?_
              refine zz_getR (q := 63) C gf_M_51 (by decide +kernel) rfl (by first | rfl | assumption) (hok 18 90 240 rfl).1 ?_
              refine zz_iconst (q := 64) (n := 4) (x := 4) C (by decide +kernel) rfl (by decide +kernel) ?_
              refine zz_iload_n (q := 65) (f := 1) (i := 1) C (by decide +kernel) rfl rfl rfl ?_
              refine zz_imul (q := 66) C (by decide +kernel) rfl (nI_mul9 4 _) ?_
              refine zz_aload_n (q := 67) (f := 0) (i := 0) C (by decide +kernel) rfl rfl rfl ?_
              refine zz_getI (q := 70) C gf_M_105 (by decide +kernel) rfl (by first | rfl | assumption) (hse hne) ?_
              refine zz_iadd (q := 71) C (by decide +kernel) rfl (nI_add _ _) ?_
              refine zz_iaload (q := 72) C (by decide +kernel) rfl rfl (hok 18 90 240 rfl).2 rfl (by omega) (by decide) rfl ?_
              refine zz_i2l (q := 73) C (by decide +kernel) rfl rfl ?_
              refine zz_lstore_n (q := 74) (f := 3) (i := 3) C (by decide +kernel) rfl rfl (by decide) rfl ?_
              refine zz_aload_n (q := 75) (f := 0) (i := 0) C (by decide +kernel) rfl rfl rfl ?_
              refine zz_getR (q := 78) C gf_M_57 (by decide +kernel) rfl (by first | rfl | assumption) (hok 20 92 60 rfl).1 ?_
              refine zz_iload_n (q := 79) (f := 2) (i := 2) C (by decide +kernel) rfl rfl rfl ?_
              refine zz_lload_n (q := 80) (f := 3) (i := 3) C (by decide +kernel) rfl rfl rfl ?_
              refine zz_aload_n (q := 81) (f := 0) (i := 0) C (by decide +kernel) rfl rfl rfl ?_
              refine zz_getR (q := 84) C gf_M_57 (by decide +kernel) rfl (by first | rfl | assumption) (hok 20 92 60 rfl).1 ?_
              refine zz_iload_n (q := 85) (f := 2) (i := 2) C (by decide +kernel) rfl rfl rfl ?_
              refine zz_laload (q := 86) C (by decide +kernel) rfl rfl (hok 20 92 60 rfl).2 rfl hx60 (by decide) rfl ?_
              refine zz_lcmp (q := 87) C (by decide +kernel) rfl ?_
              refine zz_if_ge (off := 7) (tgt := 94) (q := 90) C (by decide +kernel) (by decide) rfl (fun c87 => ?_) (fun c87 => ?_)
              · refine zz_aload_n (q := 95) (f := 0) (i := 0) C (by decide +kernel) rfl rfl rfl ?_
                refine zz_getR (q := 98) C gf_M_57 (by decide +kernel) rfl (by first | rfl | assumption) (hok 20 92 60 rfl).1 ?_
                refine zz_iload_n (q := 99) (f := 2) (i := 2) C (by decide +kernel) rfl rfl rfl ?_
                refine zz_laload (q := 100) C (by decide +kernel) rfl rfl (hok 20 92 60 rfl).2 rfl hx60 (by decide) rfl ?_
                refine zz_lastore (q := 101) C (by decide +kernel) rfl rfl (hok 20 92 60 rfl).2 rfl hx60 (by decide) ?_
                refine zz_iinc (q := 104) (i := 1) (n := 1) C (by decide +kernel) rfl rfl (nI_1 _) (by decide) rfl ?_
                refine zz_goto (off := -79) (tgt := 25) C (by decide +kernel) (by decide) ?_
                -- AT 25
                first
                  | exact ih (i + 1) _ _ _ _ (by omega) (by omega) (mVl_of hv hx60 hof (Or.inr ⟨(lg_cmp_ge _ _).mp c87, rfl⟩))
                  | exact ih (i + 1) _ _ _ _ (by omega) (by omega) (mVl_of hv hx60 hof (Or.inl ⟨Int64.not_le.mp (fun z => c87 ((lg_cmp_ge _ _).mpr z)), rfl⟩))
                  | exact ih (i + 1) _ _ _ _ (by omega) (by omega) (mVl_no hv (fun x z => absurd z.1.2 (Int32.not_lt.mpr c37)))
                  | exact ih (i + 1) _ _ _ _ (by omega) (by omega) (mVl_no hv (fun x z => c50 z.2.1))
              · refine zz_lload_n (q := 91) (f := 3) (i := 3) C (by decide +kernel) rfl rfl rfl ?_
                refine zz_goto (off := 9) (tgt := 100) C (by decide +kernel) (by decide) ?_
                refine zz_lastore (q := 101) C (by decide +kernel) rfl rfl (hok 20 92 60 rfl).2 rfl hx60 (by decide) ?_
                refine zz_iinc (q := 104) (i := 1) (n := 1) C (by decide +kernel) rfl rfl (nI_1 _) (by decide) rfl ?_
                refine zz_goto (off := -79) (tgt := 25) C (by decide +kernel) (by decide) ?_
                -- AT 25
                first
                  | exact ih (i + 1) _ _ _ _ (by omega) (by omega) (mVl_of hv hx60 hof (Or.inr ⟨(lg_cmp_ge _ _).mp c87, rfl⟩))
                  | exact ih (i + 1) _ _ _ _ (by omega) (by omega) (mVl_of hv hx60 hof (Or.inl ⟨Int64.not_le.mp (fun z => c87 ((lg_cmp_ge _ _).mpr z)), rfl⟩))
                  | exact ih (i + 1) _ _ _ _ (by omega) (by omega) (mVl_no hv (fun x z => absurd z.1.2 (Int32.not_lt.mpr c37)))
                  | exact ih (i + 1) _ _ _ _ (by omega) (by omega) (mVl_no hv (fun x z => c50 z.2.1))
    have lp2 : ∀ n i y, 61 ≤ n + i → i ≤ 60 → (∀ b j, b ≠ mf h r 20 → y b j = zz_aL h b j) → (∀ j, j < i → y (mf h r 20) j = mB40) → zz_Z p l e { frames := 2, cells := 0, slots := 0, locals := 34 } s m args below meth c Q D DA (zz_A h s.heap.size) h 5 2 [some (zz_r 7 (some r)), some (zz_i (nI i)), none, none, none] [] (mo_ly h y) 0 0 := by
      intro n
      induction n with
      | zero =>
        intro i y hn hi
        exact absurd hn (by omega)
      | succ n ih =>
        intro i y hn hile hf hall
        refine zz_iload_n (q := 3) (f := 1) (i := 1) C (by decide +kernel) rfl rfl rfl ?_
        refine zz_bipush (q := 5) (n := 60) (x := 60) C (by decide +kernel) rfl (by decide +kernel) ?_
        refine zz_icmp_ge (off := 18) (tgt := 23) (q := 8) C (by decide +kernel) (by decide) rfl (fun c5 => ?_) (fun c5 => ?_)
        · refine zz_iconst (q := 24) (n := 0) (x := 0) C (by decide +kernel) rfl (by decide +kernel) ?_
          refine zz_istore_n (q := 25) (f := 1) (i := 1) C (by decide +kernel) rfl rfl (by decide) rfl ?_
          -- AT 25
          have he : i = 60 := by
            have := ((nI_leI (a := 60) (b := i) (by decide) (by omega)).mp c5)
            omega
          exact lp25 61 0 _ _ _ y (by omega) (by omega) ⟨hf, fun x hx => ⟨fun _ => hall x (by omega), fun s hs => absurd hs (by omega), fun ⟨s, hs, _⟩ => absurd hs (by omega)⟩⟩
        · have hi : i < 60 := Nat.lt_of_not_le (fun z => c5 (nI_le (a := 60) z (by omega)))
          refine zz_aload_n (q := 9) (f := 0) (i := 0) C (by decide +kernel) rfl rfl rfl ?_
          refine zz_getR (q := 12) C gf_M_57 (by decide +kernel) rfl (by first | rfl | assumption) (hok 20 92 60 rfl).1 ?_
          refine zz_iload_n (q := 13) (f := 1) (i := 1) C (by decide +kernel) rfl rfl rfl ?_
          refine zz_ldc2 (q := 16) C lc_M_118 (by decide +kernel) rfl ?_
          refine zz_lastore (q := 17) C (by decide +kernel) rfl rfl (hok 20 92 60 rfl).2 rfl (by omega) (by decide) ?_
          refine zz_iinc (q := 20) (i := 1) (n := 1) C (by decide +kernel) rfl rfl (nI_1 _) (by decide) rfl ?_
          refine zz_goto (off := -18) (tgt := 2) C (by decide +kernel) (by decide) ?_
          -- AT 2
          refine ih (i + 1) (fun b j => if b = mf h r 20 ∧ j = i then mB40 else y b j) (by omega) (by omega) (fun b j hb => ?_) (fun j hj => ?_)
          · show (if b = mf h r 20 ∧ j = i then mB40 else y b j) = _
            rw [if_neg (fun z => hb z.1)]; exact hf b j hb
          · show (if mf h r 20 = mf h r 20 ∧ j = i then mB40 else y (mf h r 20) j) = _
            by_cases hji : j = i
            · exact if_pos ⟨rfl, hji⟩
            · rw [if_neg (fun z => hji z.2)]; exact hall j (by omega)
    refine zz_iconst (q := 1) (n := 0) (x := 0) C (by decide +kernel) rfl (by decide +kernel) ?_
    refine zz_istore_n (q := 2) (f := 1) (i := 1) C (by decide +kernel) rfl rfl (by decide) rfl ?_
    -- AT 2
    exact lp2 61 0 (zz_aL h) (by omega) (by omega) (fun _ _ _ => rfl) (fun j hj => absurd hj (by omega))
end

/-! throws: the words -/
def xx_tw : List Cond := [41, 56, 57, 289, 290, 292, 294, 296, 297, 298, 299, 300, 301, 302, 303, 304, 305, 306, 307, 308, 309, 310, 311, 312, 313, 314, 316, 318, 319, 321, 322, 323, 324, 326, 328, 330, 331, 332, 333, 334, 335, 336, 337, 338, 339, 340, 341, 342, 343, 344, 345, 346, 365, 366, 367, 368, 369, 370, 371, 372, 374, 375, 376, 377, 520, 521, 522, 523, 524, 525, 526, 527, 529, 530, 531, 532].filterMap (fun i => lw_tbl[i]?)
def xx_sp : List Cond := [.laysStatic Bundle.tN "UNASSIGNED_STACK" Bundle.steD, .laysStatic Bundle.tN "SUPPRESSED_SENTINEL" Bundle.listD, .isRef (.static Bundle.tN "UNASSIGNED_STACK" Bundle.steD), .isRef (.static Bundle.tN "SUPPRESSED_SENTINEL" Bundle.listD)]
theorem xx_tw_in : ∀ w ∈ xx_tw, w ∈ zz_all := zz_ins [41, 56, 57, 289, 290, 292, 294, 296, 297, 298, 299, 300, 301, 302, 303, 304, 305, 306, 307, 308, 309, 310, 311, 312, 313, 314, 316, 318, 319, 321, 322, 323, 324, 326, 328, 330, 331, 332, 333, 334, 335, 336, 337, 338, 339, 340, 341, 342, 343, 344, 345, 346, 365, 366, 367, 368, 369, 370, 371, 372, 374, 375, 376, 377, 520, 521, 522, 523, 524, 525, 526, 527, 529, 530, 531, 532] rfl (by decide +kernel)
def xx_up : List String := ["java/lang/RuntimeException", "java/lang/Exception"]
theorem xx_ownA : (Bundle.ownAtoms "SegmentTrees" 48 "java/lang/IllegalArgumentException" xx_up).all (fun w => decide (w ∈ xx_tw) || decide (w ∈ xx_sp)) = true := by decide +kernel
theorem xx_ownS : (Bundle.ownAtoms "SegmentTrees" 71 "java/lang/IllegalStateException" xx_up).all (fun w => decide (w ∈ xx_tw) || decide (w ∈ xx_sp)) = true := by decide +kernel
theorem xx_ownB : (Bundle.ownAtoms "SegmentTrees" 175 "java/lang/IndexOutOfBoundsException" xx_up).all (fun w => decide (w ∈ xx_tw) || decide (w ∈ xx_sp)) = true := by decide +kernel
theorem xx_pay {own X : String} {ic : Nat} {args : Array Value} {s : State} {A : Nat → Prop} (hw : (Bundle.ownAtoms own ic X xx_up).all (fun w => decide (w ∈ xx_tw) || decide (w ∈ xx_sp)) = true) (ht : ∀ w ∈ zz_all, w.before args s = true) (hG : xx_G A s s.heap) : ∀ w ∈ Bundle.ownAtoms own ic X xx_up, w.before args s = true := fun w hm => by
  have h1 := List.all_eq_true.mp hw w hm
  simp only [Bool.or_eq_true, decide_eq_true_eq] at h1
  rcases h1 with h1 | h1
  · exact ht w (xx_tw_in w h1)
  · simp only [xx_sp, List.mem_cons, List.not_mem_nil, or_false] at h1
    rcases h1 with rfl | rfl | rfl | rfl
    · exact xx_Z_lay hG.1
    · exact xx_Z_lay hG.2.1
    · exact xx_Z_ref hG.1
    · exact xx_Z_ref hG.2.1
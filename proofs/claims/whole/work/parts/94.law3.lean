/-! the law: what a step must do, and its cases -/
theorem zz_up_mono {T : zz_Tr} {as : List zz_V} {h : zz_H} {P P' : Option zz_V → zz_H → Prop} (hT : zz_up T as h P) (hP : ∀ v h', P v h' → P' v h') : zz_up T as h P' := by
  obtain ⟨P0, h1, h2⟩ := hT
  exact ⟨P0, h1, fun v h' z => hP v h' (h2 v h' z)⟩
theorem lg_cmp_self (x : Int64) : lg_cmp x x = 0 := by
  unfold lg_cmp
  rw [if_neg (fun z => Int64.lt_irrefl z), if_pos rfl]
theorem nz01 (x : Int32) : (if x = 0 then (0 : Int32) else 1) = 0 ∨ (if x = 0 then (0 : Int32) else 1) = 1 := by
  by_cases h : x = 0
  · rw [if_pos h]; exact Or.inl rfl
  · rw [if_neg h]; exact Or.inr rfl
section NZ
variable {p : Program} {l : Launch} {e : Env} {R : Room} {s : State} {m : MethodId} {args : Array Value} {below : List Frame} {meth : Method} {c : Code} {Q : State → Prop}
variable {D : va_G} {DA : Nat → ClassId} {A : Nat → Prop} {h0 h : zz_H} {nL kc ns pc q : Nat} {cc : ByteArray} {own : String} {L : List (Option zz_V)} {S : List zz_V}
theorem zz_nz (C : zz_C p s m args c cc nL own D DA) {x : Int32} {o1 o2 : Int} {t j q1 q2 : Nat} (d0 : decode cc pc = .ok (.ifCond .eq o1, 3)) (e0 : (pc : Int) + o1 = (t : Int)) (e1 : pc + 3 = q1) (d1 : decode cc q1 = .ok (.iconst 1, 1)) (e2 : q1 + 1 = q2) (d2 : decode cc q2 = .ok (.goto o2, 3)) (e3 : (q2 : Int) + o2 = (j : Int)) (d3 : decode cc t = .ok (.iconst 0, 1)) (e4 : t + 1 = j) (k : zz_Z p l e R s m args below meth c Q D DA A h0 nL j L (zz_i (if x = 0 then 0 else 1) :: S) h kc ns) : zz_Z p l e R s m args below meth c Q D DA A h0 nL pc L (zz_i x :: S) h kc ns := by
  refine zz_if_eq C d0 e0 e1 (fun z => ?_) (fun z => ?_)
  · refine zz_iconst C d3 e4 rfl ?_
    rw [if_pos z] at k; exact k
  · refine zz_iconst C d1 e2 rfl ?_
    refine zz_goto C d2 e3 ?_
    rw [if_neg z] at k; exact k
theorem zz_nzl (C : zz_C p s m args c cc nL own D DA) {x : Int32} {o1 o2 : Int} {t j q1 q2 : Nat} (d0 : decode cc pc = .ok (.ifCond .eq o1, 3)) (e0 : (pc : Int) + o1 = (t : Int)) (e1 : pc + 3 = q1) (d1 : decode cc q1 = .ok (.lconst 1, 1)) (e2 : q1 + 1 = q2) (d2 : decode cc q2 = .ok (.goto o2, 3)) (e3 : (q2 : Int) + o2 = (j : Int)) (d3 : decode cc t = .ok (.lconst 0, 1)) (e4 : t + 1 = j) (k : zz_Z p l e R s m args below meth c Q D DA A h0 nL j L (zz_l (if x = 0 then 0 else 1) :: S) h kc ns) : zz_Z p l e R s m args below meth c Q D DA A h0 nL pc L (zz_i x :: S) h kc ns := by
  refine zz_if_eq C d0 e0 e1 (fun z => ?_) (fun z => ?_)
  · refine zz_lconst C d3 e4 rfl ?_
    rw [if_pos z] at k; exact k
  · refine zz_lconst C d1 e2 rfl ?_
    refine zz_goto C d2 e3 ?_
    rw [if_neg z] at k; exact k
/-- the script is what it was -/
theorem zz_xs {b n : Nat} {xs : Nat → Int32} (h93 : zz_tg h0 b = some (93, n)) (hX0 : va_X b n xs s s.heap) (k : zz_tg h b = some (93, n) → (∀ j, j < n → zz_aI h b j = xs j) → zz_tyH h → zz_Z p l e R s m args below meth c Q D DA A h0 nL pc L S h kc ns) : zz_Z p l e R s m args below meth c Q D DA A h0 nL pc L S h kc ns := by
  intro H locs ls hW hS hle hTL hTS hL
  have ht : zz_tg h b = some (93, n) := hle.1 b _ h93
  refine k ht (fun j hj => ?_) hW.2.2 H locs ls hW hS hle hTL hTS hL
  obtain ⟨scr, g1, -, -, -, g5⟩ := hW.2.1 b n ht
  obtain ⟨scr0, f1, -, -, -, f5⟩ := hX0
  obtain ⟨hb1, hb2⟩ := hS.2.2.2 b n ht
  have e1 := hS.1.2.1 b hb1 hb2
  rw [g1, f1] at e1
  cases e1
  have e2 := (g5 j hj).symm.trans (f5 j hj)
  simp only [Option.some.injEq, Slot.val.injEq, Value.int.injEq] at e2
  exact e2
end NZ
abbrev lw_I : Type := Nat → zz_H → Nat → Nat → Nat → Prop
def st_tag (I : lw_I) : Prop := ∀ n h x r u, I n h x r u → zz_tg h u = some (92, 1)
theorem zz_sw_0_18 (x : Int32) : x = 0 ∨ x = 1 ∨ x = 2 ∨ x = 3 ∨ x = 4 ∨ x = 5 ∨ x = 6 ∨ x = 7 ∨ x = 8 ∨ x = 9 ∨ x = 10 ∨ x = 11 ∨ x = 12 ∨ x = 13 ∨ x = 14 ∨ x = 15 ∨ x = 16 ∨ x = 17 ∨ x = 18 ∨ (x.toInt < 0 ∨ 18 < x.toInt) := by
  by_cases h0 : x.toInt = (0 : Int32).toInt
  · exact Or.inl (Int32.toInt_inj.mp h0)
  by_cases h1 : x.toInt = (1 : Int32).toInt
  · exact Or.inr (Or.inl (Int32.toInt_inj.mp h1))
  by_cases h2 : x.toInt = (2 : Int32).toInt
  · exact Or.inr (Or.inr (Or.inl (Int32.toInt_inj.mp h2)))
  by_cases h3 : x.toInt = (3 : Int32).toInt
  · exact Or.inr (Or.inr (Or.inr (Or.inl (Int32.toInt_inj.mp h3))))
  by_cases h4 : x.toInt = (4 : Int32).toInt
  · exact Or.inr (Or.inr (Or.inr (Or.inr (Or.inl (Int32.toInt_inj.mp h4)))))
  by_cases h5 : x.toInt = (5 : Int32).toInt
  · exact Or.inr (Or.inr (Or.inr (Or.inr (Or.inr (Or.inl (Int32.toInt_inj.mp h5))))))
  by_cases h6 : x.toInt = (6 : Int32).toInt
  · exact Or.inr (Or.inr (Or.inr (Or.inr (Or.inr (Or.inr (Or.inl (Int32.toInt_inj.mp h6)))))))
  by_cases h7 : x.toInt = (7 : Int32).toInt
  · exact Or.inr (Or.inr (Or.inr (Or.inr (Or.inr (Or.inr (Or.inr (Or.inl (Int32.toInt_inj.mp h7))))))))
  by_cases h8 : x.toInt = (8 : Int32).toInt
  · exact Or.inr (Or.inr (Or.inr (Or.inr (Or.inr (Or.inr (Or.inr (Or.inr (Or.inl (Int32.toInt_inj.mp h8)))))))))
  by_cases h9 : x.toInt = (9 : Int32).toInt
  · exact Or.inr (Or.inr (Or.inr (Or.inr (Or.inr (Or.inr (Or.inr (Or.inr (Or.inr (Or.inl (Int32.toInt_inj.mp h9))))))))))
  by_cases h10 : x.toInt = (10 : Int32).toInt
  · exact Or.inr (Or.inr (Or.inr (Or.inr (Or.inr (Or.inr (Or.inr (Or.inr (Or.inr (Or.inr (Or.inl (Int32.toInt_inj.mp h10)))))))))))
  by_cases h11 : x.toInt = (11 : Int32).toInt
  · exact Or.inr (Or.inr (Or.inr (Or.inr (Or.inr (Or.inr (Or.inr (Or.inr (Or.inr (Or.inr (Or.inr (Or.inl (Int32.toInt_inj.mp h11))))))))))))
  by_cases h12 : x.toInt = (12 : Int32).toInt
  · exact Or.inr (Or.inr (Or.inr (Or.inr (Or.inr (Or.inr (Or.inr (Or.inr (Or.inr (Or.inr (Or.inr (Or.inr (Or.inl (Int32.toInt_inj.mp h12)))))))))))))
  by_cases h13 : x.toInt = (13 : Int32).toInt
  · exact Or.inr (Or.inr (Or.inr (Or.inr (Or.inr (Or.inr (Or.inr (Or.inr (Or.inr (Or.inr (Or.inr (Or.inr (Or.inr (Or.inl (Int32.toInt_inj.mp h13))))))))))))))
  by_cases h14 : x.toInt = (14 : Int32).toInt
  · exact Or.inr (Or.inr (Or.inr (Or.inr (Or.inr (Or.inr (Or.inr (Or.inr (Or.inr (Or.inr (Or.inr (Or.inr (Or.inr (Or.inr (Or.inl (Int32.toInt_inj.mp h14)))))))))))))))
  by_cases h15 : x.toInt = (15 : Int32).toInt
  · exact Or.inr (Or.inr (Or.inr (Or.inr (Or.inr (Or.inr (Or.inr (Or.inr (Or.inr (Or.inr (Or.inr (Or.inr (Or.inr (Or.inr (Or.inr (Or.inl (Int32.toInt_inj.mp h15))))))))))))))))
  by_cases h16 : x.toInt = (16 : Int32).toInt
  · exact Or.inr (Or.inr (Or.inr (Or.inr (Or.inr (Or.inr (Or.inr (Or.inr (Or.inr (Or.inr (Or.inr (Or.inr (Or.inr (Or.inr (Or.inr (Or.inr (Or.inl (Int32.toInt_inj.mp h16)))))))))))))))))
  by_cases h17 : x.toInt = (17 : Int32).toInt
  · exact Or.inr (Or.inr (Or.inr (Or.inr (Or.inr (Or.inr (Or.inr (Or.inr (Or.inr (Or.inr (Or.inr (Or.inr (Or.inr (Or.inr (Or.inr (Or.inr (Or.inr (Or.inl (Int32.toInt_inj.mp h17))))))))))))))))))
  by_cases h18 : x.toInt = (18 : Int32).toInt
  · exact Or.inr (Or.inr (Or.inr (Or.inr (Or.inr (Or.inr (Or.inr (Or.inr (Or.inr (Or.inr (Or.inr (Or.inr (Or.inr (Or.inr (Or.inr (Or.inr (Or.inr (Or.inr (Or.inl (Int32.toInt_inj.mp h18)))))))))))))))))))
  refine Or.inr (Or.inr (Or.inr (Or.inr (Or.inr (Or.inr (Or.inr (Or.inr (Or.inr (Or.inr (Or.inr (Or.inr (Or.inr (Or.inr (Or.inr (Or.inr (Or.inr (Or.inr (Or.inr (?_)))))))))))))))))))
  have e0 : (0 : Int32).toInt = 0 := by decide +kernel
  have e1 : (1 : Int32).toInt = 1 := by decide +kernel
  have e2 : (2 : Int32).toInt = 2 := by decide +kernel
  have e3 : (3 : Int32).toInt = 3 := by decide +kernel
  have e4 : (4 : Int32).toInt = 4 := by decide +kernel
  have e5 : (5 : Int32).toInt = 5 := by decide +kernel
  have e6 : (6 : Int32).toInt = 6 := by decide +kernel
  have e7 : (7 : Int32).toInt = 7 := by decide +kernel
  have e8 : (8 : Int32).toInt = 8 := by decide +kernel
  have e9 : (9 : Int32).toInt = 9 := by decide +kernel
  have e10 : (10 : Int32).toInt = 10 := by decide +kernel
  have e11 : (11 : Int32).toInt = 11 := by decide +kernel
  have e12 : (12 : Int32).toInt = 12 := by decide +kernel
  have e13 : (13 : Int32).toInt = 13 := by decide +kernel
  have e14 : (14 : Int32).toInt = 14 := by decide +kernel
  have e15 : (15 : Int32).toInt = 15 := by decide +kernel
  have e16 : (16 : Int32).toInt = 16 := by decide +kernel
  have e17 : (17 : Int32).toInt = 17 := by decide +kernel
  have e18 : (18 : Int32).toInt = 18 := by decide +kernel
  omega
def st_type (I : lw_I) : Prop := ∀ (n : Nat) (h : zz_H) (x r u : Nat) (p1 p2 p3 p4 p5 p6 : Int32), n < 512 → I n h x r u → zz_tyH h → (p5 = 0 ∨ p5 = 1) → (p6 = 0 ∨ p6 = 1) → zz_up T_W_type [zz_r 0 (some x), zz_i p1, zz_i p2, zz_i p3, zz_i p4, zz_i p5, zz_i p6] h (fun v h1 => ∃ k, v = some (zz_i k) ∧ zz_up T_M_type [zz_r 7 (some r), zz_i p1, zz_i p2, zz_i p3, zz_i p4, zz_i p5, zz_i p6] h1 (fun w h2 => w = none ∧ zz_fI h2 7 0 r = k ∧ I (n + 1) h2 x r u))
def st_twins (I : lw_I) : Prop := ∀ (n : Nat) (h : zz_H) (x r u : Nat) (p1 p2 : Int32), n < 512 → I n h x r u → zz_tyH h → zz_up T_W_twins [zz_r 0 (some x), zz_i p1, zz_i p2] h (fun v h1 => ∃ k, v = some (zz_i k) ∧ zz_up T_M_twins [zz_r 7 (some r), zz_i p1, zz_i p2] h1 (fun w h2 => w = none ∧ zz_fI h2 7 0 r = k ∧ I (n + 1) h2 x r u))
def st_second (I : lw_I) : Prop := ∀ (n : Nat) (h : zz_H) (x r u : Nat) (p1 p2 : Int32), n < 512 → I n h x r u → zz_tyH h → zz_up T_W_second [zz_r 0 (some x), zz_i p1, zz_i p2] h (fun v h1 => ∃ k, v = some (zz_i k) ∧ zz_up T_M_second [zz_r 7 (some r), zz_i p1, zz_i p2] h1 (fun w h2 => w = none ∧ zz_fI h2 7 0 r = k ∧ I (n + 1) h2 x r u))
def st_clearPath (I : lw_I) : Prop := ∀ (n : Nat) (h : zz_H) (x r u : Nat), n < 512 → I n h x r u → zz_tyH h → zz_up T_T_clearPath [zz_r 0 (some x)] h (fun v h1 => v = none ∧ zz_up T_M_clearPath [zz_r 7 (some r)] h1 (fun w h2 => w = none ∧ I (n + 1) h2 x r u))
def st_path (I : lw_I) : Prop := ∀ (n : Nat) (h : zz_H) (x r u : Nat) (p1 p2 p3 p4 : Int32), n < 512 → I n h x r u → zz_tyH h → zz_up T_W_path [zz_r 0 (some x), zz_i p1, zz_i p2, zz_i p3, zz_i p4, zz_r 92 (some u)] h (fun v h1 => ∃ k, v = some (zz_i k) ∧ zz_up T_M_path [zz_r 7 (some r), zz_i p1, zz_i p2, zz_i p3, zz_i p4] h1 (fun w h2 => ∃ b, w = some (zz_i b) ∧ zz_fI h2 7 0 r = k ∧ (k = 0 → zz_aL h2 u 0 = if b = 0 then 0 else 1) ∧ I (n + 1) h2 x r u))
def st_work (I : lw_I) : Prop := ∀ (n : Nat) (h : zz_H) (x r u : Nat) (p1 p2 : Int32), n < 512 → I n h x r u → zz_tyH h → zz_up T_W_work [zz_r 0 (some x), zz_i p1, zz_i p2] h (fun v h1 => ∃ k, v = some (zz_i k) ∧ zz_up T_M_work [zz_r 7 (some r), zz_i p1, zz_i p2] h1 (fun w h2 => w = none ∧ zz_fI h2 7 0 r = k ∧ I (n + 1) h2 x r u))
def st_unique (I : lw_I) : Prop := ∀ (n : Nat) (h : zz_H) (x r u : Nat) (p1 : Int32), n < 512 → I n h x r u → zz_tyH h → (p1 = 0 ∨ p1 = 1) → zz_up T_T_unique [zz_r 0 (some x), zz_i p1] h (fun v h1 => ∃ a, v = some (zz_i a) ∧ zz_up T_M_unique [zz_r 7 (some r), zz_i p1] h1 (fun w h2 => w = some (zz_i a) ∧ I (n + 1) h2 x r u))
def st_next (I : lw_I) : Prop := ∀ (n : Nat) (h : zz_H) (x r u : Nat) (p1 : Int32), n < 512 → I n h x r u → zz_tyH h → (p1 = 0 ∨ p1 = 1) → zz_up T_T_next [zz_r 0 (some x), zz_i p1] h (fun v h1 => ∃ a, v = some (zz_i a) ∧ zz_up T_M_next [zz_r 7 (some r), zz_i p1] h1 (fun w h2 => w = some (zz_i a) ∧ I (n + 1) h2 x r u))
def st_within (I : lw_I) : Prop := ∀ (n : Nat) (h : zz_H) (x r u : Nat) (p1 : Int32), n < 512 → I n h x r u → zz_tyH h → (p1 = 0 ∨ p1 = 1) → zz_up T_W_within [zz_r 0 (some x), zz_i p1, zz_r 92 (some u)] h (fun v h1 => ∃ k, v = some (zz_i k) ∧ zz_up T_M_within [zz_r 7 (some r), zz_i p1] h1 (fun w h2 => ∃ b, w = some (zz_i b) ∧ zz_fI h2 7 0 r = k ∧ (k = 0 → zz_aL h2 u 0 = b.toInt64) ∧ I (n + 1) h2 x r u))
def st_fix (I : lw_I) : Prop := ∀ (n : Nat) (h : zz_H) (x r u : Nat), n < 512 → I n h x r u → zz_tyH h → zz_up T_W_fix [zz_r 0 (some x), zz_r 92 (some u)] h (fun v h1 => ∃ k, v = some (zz_i k) ∧ zz_up T_M_fix [zz_r 7 (some r)] h1 (fun w h2 => ∃ b, w = some (zz_i b) ∧ zz_fI h2 7 0 r = k ∧ (k = 0 → zz_aL h2 u 0 = b.toInt64) ∧ I (n + 1) h2 x r u))
def st_at (I : lw_I) : Prop := ∀ (n : Nat) (h : zz_H) (x r u : Nat), n < 512 → I n h x r u → zz_tyH h → zz_up T_T_at [zz_r 0 (some x)] h (fun v h1 => ∃ a, v = some (zz_i a) ∧ zz_up T_M_at [zz_r 7 (some r)] h1 (fun w h2 => w = some (zz_i a) ∧ I (n + 1) h2 x r u))
def st_place (I : lw_I) : Prop := ∀ (n : Nat) (h : zz_H) (x r u : Nat), n < 512 → I n h x r u → zz_tyH h → zz_up T_T_place [zz_r 0 (some x)] h (fun v h1 => ∃ a, v = some (zz_i a) ∧ zz_up T_M_place [zz_r 7 (some r)] h1 (fun w h2 => w = some (zz_i a) ∧ I (n + 1) h2 x r u))
def st_word (I : lw_I) : Prop := ∀ (n : Nat) (h : zz_H) (x r u : Nat) (p1 : Int32), n < 512 → I n h x r u → zz_tyH h → zz_up T_W_word [zz_r 0 (some x), zz_i p1, zz_r 92 (some u)] h (fun v h1 => ∃ k, v = some (zz_i k) ∧ zz_up T_M_word [zz_r 7 (some r), zz_i p1] h1 (fun w h2 => ∃ b, w = some (zz_i b) ∧ zz_fI h2 7 0 r = k ∧ (k = 0 → zz_aL h2 u 0 = b.toInt64) ∧ I (n + 1) h2 x r u))
def st_insert (I : lw_I) : Prop := ∀ (n : Nat) (h : zz_H) (x r u : Nat) (p1 : Int32), n < 512 → I n h x r u → zz_tyH h → zz_up T_W_insert [zz_r 0 (some x), zz_i p1, zz_r 92 (some u)] h (fun v h1 => ∃ k, v = some (zz_i k) ∧ zz_up T_M_insert [zz_r 7 (some r), zz_i p1] h1 (fun w h2 => ∃ b, w = some (zz_i b) ∧ zz_fI h2 7 0 r = k ∧ (k = 0 → zz_aL h2 u 0 = b.toInt64) ∧ I (n + 1) h2 x r u))
def st_replace (I : lw_I) : Prop := ∀ (n : Nat) (h : zz_H) (x r u : Nat), n < 512 → I n h x r u → zz_tyH h → zz_up T_W_replace [zz_r 0 (some x), zz_r 92 (some u)] h (fun v h1 => ∃ k, v = some (zz_i k) ∧ zz_up T_M_replace [zz_r 7 (some r)] h1 (fun w h2 => ∃ b, w = some (zz_i b) ∧ zz_fI h2 7 0 r = k ∧ (k = 0 → zz_aL h2 u 0 = if b = 0 then 0 else 1) ∧ I (n + 1) h2 x r u))
def st_delete (I : lw_I) : Prop := ∀ (n : Nat) (h : zz_H) (x r u : Nat), n < 512 → I n h x r u → zz_tyH h → zz_up T_W_delete [zz_r 0 (some x), zz_r 92 (some u)] h (fun v h1 => ∃ k, v = some (zz_i k) ∧ zz_up T_M_delete [zz_r 7 (some r)] h1 (fun w h2 => ∃ b, w = some (zz_i b) ∧ zz_fI h2 7 0 r = k ∧ (k = 0 → zz_aL h2 u 0 = b.toInt64) ∧ I (n + 1) h2 x r u))
def st_bySecond (I : lw_I) : Prop := ∀ (n : Nat) (h : zz_H) (x r u : Nat) (p1 : Int32), n < 512 → I n h x r u → zz_tyH h → (p1 = 0 ∨ p1 = 1) → zz_up T_W_bySecond [zz_r 0 (some x), zz_i p1] h (fun v h1 => ∃ k, v = some (zz_i k) ∧ zz_up T_M_bySecond [zz_r 7 (some r), zz_i p1] h1 (fun w h2 => w = none ∧ zz_fI h2 7 0 r = k ∧ I (n + 1) h2 x r u))
def st_count (I : lw_I) : Prop := ∀ (n : Nat) (h : zz_H) (x r u : Nat), n < 512 → I n h x r u → zz_tyH h → zz_up T_T_count [zz_r 0 (some x)] h (fun v h1 => ∃ a, v = some (zz_i a) ∧ zz_up T_M_count [zz_r 7 (some r)] h1 (fun w h2 => w = some (zz_i a) ∧ I (n + 1) h2 x r u))
def st_segment (I : lw_I) : Prop := ∀ (n : Nat) (h : zz_H) (x r u : Nat) (p1 p2 : Int32), n < 512 → I n h x r u → zz_tyH h → zz_up T_T_segment [zz_r 0 (some x), zz_i p1, zz_i p2] h (fun v h1 => ∃ a, v = some (zz_i a) ∧ zz_up T_M_segment [zz_r 7 (some r), zz_i p1, zz_i p2] h1 (fun w h2 => w = some (zz_i a) ∧ I (n + 1) h2 x r u))
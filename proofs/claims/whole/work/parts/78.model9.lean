/-! the reference: sort -/
theorem lst_last : ∀ l : List Nat, l = [] ∨ ∃ A e, l = A ++ [e]
  | [] => Or.inl rfl
  | a :: t => by
    rcases lst_last t with h | ⟨A, e, h⟩
    · exact Or.inr ⟨[], a, by rw [h]; rfl⟩
    · exact Or.inr ⟨a :: A, e, by rw [h]; rfl⟩
theorem mX_ins {d i : Nat} {x : Nat → Nat → Int32} {A B : List Nat} (hA : mX d x 0 A) (hB : mX d x (A.length + 1) B) : mX d (fun b j => if b = d ∧ j = A.length then nI i else x b j) 0 (A ++ i :: B) := fun j a hj => by
  show (if d = d ∧ 0 + j = A.length then nI i else x d (0 + j)) = nI a
  rw [Nat.zero_add]
  by_cases h1 : j < A.length
  · rw [List.getElem?_append_left h1] at hj
    rw [if_neg (fun z => by have := z.2; omega)]
    have := hA j a hj
    rwa [Nat.zero_add] at this
  · rw [List.getElem?_append_right (by omega)] at hj
    by_cases h2 : j = A.length
    · rw [h2, Nat.sub_self] at hj
      rw [if_pos ⟨rfl, h2⟩]
      rw [show i = a by simpa using hj]
    · obtain ⟨k, hk⟩ : ∃ k, j - A.length = k + 1 := ⟨j - A.length - 1, by omega⟩
      rw [hk] at hj
      have hj : B[k]? = some a := by simpa using hj
      rw [if_neg (fun z => h2 z.2), show j = A.length + 1 + k by omega]
      exact hB k a hj
theorem mX_shift {d e : Nat} {x : Nat → Nat → Int32} {A B : List Nat} (hA : mX d x 0 (A ++ [e])) (hB : mX d x ((A ++ [e]).length + 1) B) : mX d (fun b j => if b = d ∧ j = A.length + 1 then nI e else x b j) 0 A ∧ mX d (fun b j => if b = d ∧ j = A.length + 1 then nI e else x b j) (A.length + 1) (e :: B) := by
  refine ⟨fun j a hj => ?_, fun j a hj => ?_⟩
  · have hl : j < A.length := (List.getElem?_eq_some_iff.mp hj).1
    show (if d = d ∧ 0 + j = A.length + 1 then nI e else x d (0 + j)) = nI a
    rw [if_neg (fun z => by have := z.2; omega)]
    exact hA j a (by rw [List.getElem?_append_left hl]; exact hj)
  · show (if d = d ∧ A.length + 1 + j = A.length + 1 then nI e else x d (A.length + 1 + j)) = nI a
    cases j with
    | zero =>
      rw [if_pos ⟨rfl, rfl⟩, show e = a by simpa using hj]
    | succ k =>
      rw [if_neg (fun z => by have := z.2; omega)]
      have hj : B[k]? = some a := by simpa using hj
      have := hB k a hj
      rw [List.length_append] at this
      rw [show A.length + 1 + (k + 1) = A.length + [e].length + 1 + k by simp; omega]
      exact this
theorem nI_predE {n k : Nat} (e : n = k + 1) : nI n - 1 = nI k := by rw [e]; exact nI_pred k
theorem nI_pred9E {n k : Nat} (e : n = k + 1) : nI n + Int32.ofInt (-1) = nI k := by rw [e]; exact nI_pred9 k
theorem mX_last {d e : Nat} {x : Nat → Nat → Int32} {A : List Nat} (hA : mX d x 0 (A ++ [e])) : x d A.length = nI e := by
  have := hA A.length e (by simp)
  rwa [Nat.zero_add] at this
def mFr (h : zz_H) (r : Nat) (x : Nat → Nat → Int32) : Prop := ∀ b j, b ≠ mf h r 19 → x b j = zz_aI h b j
theorem mFr_s {h : zz_H} {r i : Nat} {x : Nat → Nat → Int32} {v : Int32} (hx : mFr h r x) : mFr h r (fun b j => if b = mf h r 19 ∧ j = i then v else x b j) := fun b j hb => by
  show (if b = mf h r 19 ∧ j = i then v else x b j) = _
  rw [if_neg (fun z => hb z.1)]; exact hx b j hb
def T_M_sort : zz_Tr := fun as h post => ∃ r sw t2, as = [zz_r 7 (some r)] ∧ sw < 4 ∧ (zz_fI h 7 9 r ≠ -1 → zz_fI h 7 10 r = nI sw) ∧ mo_ok h r ∧ mo_ap h r ∧ mo_wl h r ∧ mo_wt h r ∧ mo_kd h r ∧ mo_t2 h r t2 ∧ ∀ y Ls x, mVl h r sw 60 y → mSrt (mFst (mo_ly h y) r t2) (mLive h r) 60 Ls → mX (mf h r 19) x 0 Ls → mFr h r x → post none (mo_rx (mo_ly h y) x)
set_option maxRecDepth 100000 in
set_option maxHeartbeats 4000000 in
theorem m_M_sort (l : Launch) : zz_Met l y_M_sort w_M_sort { frames := 4, cells := 0, slots := 0, locals := 85 } T_M_sort := by
  refine zz_ofZ (by decide) (fun as h post hT => ?_) ?_
  · obtain ⟨r, sw, t2, rfl, hsw, hse, hok, hap, hwl, hwt, hkd, ht2, hp⟩ := hT
    exact ⟨by simp [zz_cat], by simp⟩
  · intro D DA h as post hT p e s m args below meth c Q C hr hlk hnm hQ
    obtain ⟨r, sw, t2, rfl, hsw, hse, hok, hap, hwl, hwt, hkd, ht2, hp⟩ := hT
    have lp25 : ∀ y i Ls, mLive h r i → mSrt (mFst (mo_ly h y) r t2) (mLive h r) i Ls → (∀ Ls2 x2 v2, mIns (mFst (mo_ly h y) r t2) i Ls Ls2 → mX (mf h r 19) x2 0 Ls2 → mFr h r x2 → zz_Z p l e { frames := 4, cells := 0, slots := 0, locals := 85 } s m args below meth c Q D DA (zz_A h s.heap.size) h 4 8 [some (zz_r 7 (some r)), some (zz_i (nI Ls2.length)), some (zz_i (nI (i + 1))), v2] [] (mo_rx (mo_ly h y) x2) 0 0) → ∀ n A B x, A.length < n → Ls = A ++ B → (∀ e ∈ B, (mFst (mo_ly h y) r t2) i e) → mX (mf h r 19) x 0 A → mX (mf h r 19) x (A.length + 1) B → mFr h r x → zz_Z p l e { frames := 4, cells := 0, slots := 0, locals := 85 } s m args below meth c Q D DA (zz_A h s.heap.size) h 4 25 [some (zz_r 7 (some r)), some (zz_i (nI Ls.length)), some (zz_i (nI i)), some (zz_i (nI A.length))] [] (mo_rx (mo_ly h y) x) 0 0 := by
      intro y i Ls hli hsr hk9 n
      have hin := mSrt_in _ _ hsr
      have hi60 := hli.1
      induction n with
      | zero =>
        intro A B x hn
        exact absurd hn (by omega)
      | succ n ih =>
        intro A B x hn hLs hB hXA hXB hfr
        have hlen : A.length ≤ Ls.length := by rw [hLs]; simp
        have hli60 := hin.1
        refine zz_iload_n (q := 26) (f := 3) (i := 3) C (by decide +kernel) rfl rfl rfl ?_
        refine zz_if_le (off := 39) (tgt := 65) (q := 29) C (by decide +kernel) (by decide) rfl (fun c26 => ?_) (fun c26 => ?_)
        · refine zz_aload_n (q := 66) (f := 0) (i := 0) C (by decide +kernel) rfl rfl rfl ?_
          refine zz_getR (q := 69) C gf_M_54 (by decide +kernel) rfl (by first | rfl | assumption) (hok 19 90 60 rfl).1 ?_
          refine zz_iload_n (q := 70) (f := 3) (i := 3) C (by decide +kernel) rfl rfl rfl ?_
          refine zz_iload_n (q := 71) (f := 2) (i := 2) C (by decide +kernel) rfl rfl rfl ?_
          refine zz_iastore (q := 72) C (by decide +kernel) rfl rfl (hok 19 90 60 rfl).2 rfl (by omega) (by decide) ?_
          refine zz_iinc (q := 75) (i := 1) (n := 1) C (by decide +kernel) rfl rfl (nI_1 _) (by decide) rfl ?_
          refine zz_iinc (q := 78) (i := 2) (n := 1) C (by decide +kernel) rfl rfl (nI_1 _) (by decide) rfl ?_
          refine zz_goto (off := -70) (tgt := 8) C (by decide +kernel) (by decide) ?_
          -- AT 8
          have hl2 : (A ++ i :: B).length = Ls.length + 1 := by
            rw [hLs]; simp [List.length_append]; omega
          have z9 := hk9 (A ++ i :: B) _ (some (zz_i (nI (A).length))) ⟨A, B, hLs, rfl, hB, Or.inl (List.eq_nil_of_length_eq_zero (Nat.le_zero.mp ((nI_leI (a := A.length) (b := 0) (by omega) (by decide)).mp c26)))⟩ (mX_ins hXA hXB) (mFr_s hfr)
          rw [hl2] at z9
          exact z9
        · have hA0 : A ≠ [] := fun z => c26 (by rw [z]; exact Int32.le_refl _)
          obtain ⟨A, e9, rfl⟩ := (lst_last A).resolve_left hA0
          have hal : (A ++ [e9]).length = A.length + 1 := by simp
          have hle : mLive h r e9 := hin.2 e9 (by rw [hLs]; simp)
          have hsm : mo_sm r (mo_ly h y) (mo_rx (mo_ly h y) x) := mo_rx_sm hap hfr
          refine zz_aload_n (q := 30) (f := 0) (i := 0) C (by decide +kernel) rfl rfl rfl ?_
          refine zz_iload_n (q := 31) (f := 2) (i := 2) C (by decide +kernel) rfl rfl rfl ?_
          refine zz_aload_n (q := 32) (f := 0) (i := 0) C (by decide +kernel) rfl rfl rfl ?_
          refine zz_getR (q := 35) C gf_M_54 (by decide +kernel) rfl (by first | rfl | assumption) (hok 19 90 60 rfl).1 ?_
          refine zz_iload_n (q := 36) (f := 3) (i := 3) C (by decide +kernel) rfl rfl rfl ?_
          refine zz_iconst (q := 37) (n := 1) (x := 1) C (by decide +kernel) rfl (by decide +kernel) ?_
          refine zz_isub (q := 38) C (by decide +kernel) rfl (nI_predE hal) ?_
          refine zz_iaload (q := 39) C (by decide +kernel) rfl rfl (hok 19 90 60 rfl).2 rfl (by omega) (by decide) (mX_last hXA) ?_
          refine zz_callV (q := 42) C (m_M_isFirst l) cv_M_141 (by decide +kernel) rfl rfl rfl (by first | rfl | assumption) (by decide) (by decide) (Nat.le_of_ble_eq_true rfl) ⟨_, _, _, t2, rfl, hok, mo_sm_wl hsm hwl, mo_sm_wt hsm hwt, mo_sm_kd hsm hkd, mo_sm_t2 hsm ht2, by rw [mo_sm_L hsm]; exact hli, by rw [mo_sm_L hsm]; exact hle, ?_⟩
          rw [mo_sm_Fst hsm]
          refine zz_if_eq (off := 23) (tgt := 65) (q := 45) C (by decide +kernel) (by decide) rfl (fun c42 => ?_) (fun c42 => ?_)
          · refine zz_aload_n (q := 66) (f := 0) (i := 0) C (by decide +kernel) rfl rfl rfl ?_
            refine zz_getR (q := 69) C gf_M_54 (by decide +kernel) rfl (by first | rfl | assumption) (hok 19 90 60 rfl).1 ?_
            refine zz_iload_n (q := 70) (f := 3) (i := 3) C (by decide +kernel) rfl rfl rfl ?_
            refine zz_iload_n (q := 71) (f := 2) (i := 2) C (by decide +kernel) rfl rfl rfl ?_
            refine zz_iastore (q := 72) C (by decide +kernel) rfl rfl (hok 19 90 60 rfl).2 rfl (by omega) (by decide) ?_
            refine zz_iinc (q := 75) (i := 1) (n := 1) C (by decide +kernel) rfl rfl (nI_1 _) (by decide) rfl ?_
            refine zz_iinc (q := 78) (i := 2) (n := 1) C (by decide +kernel) rfl rfl (nI_1 _) (by decide) rfl ?_
            refine zz_goto (off := -70) (tgt := 8) C (by decide +kernel) (by decide) ?_
            -- AT 8
            have hl2 : ((A ++ [e9]) ++ i :: B).length = Ls.length + 1 := by
              rw [hLs]; simp [List.length_append]; omega
            have z9 := hk9 ((A ++ [e9]) ++ i :: B) _ (some (zz_i (nI ((A ++ [e9])).length))) ⟨(A ++ [e9]), B, hLs, rfl, hB, Or.inr ⟨A, e9, rfl, zz_b_f c42⟩⟩ (mX_ins hXA hXB) (mFr_s hfr)
            rw [hl2] at z9
            exact z9
          · refine zz_aload_n (q := 46) (f := 0) (i := 0) C (by decide +kernel) rfl rfl rfl ?_
            refine zz_getR (q := 49) C gf_M_54 (by decide +kernel) rfl (by first | rfl | assumption) (hok 19 90 60 rfl).1 ?_
            refine zz_iload_n (q := 50) (f := 3) (i := 3) C (by decide +kernel) rfl rfl rfl ?_
            refine zz_aload_n (q := 51) (f := 0) (i := 0) C (by decide +kernel) rfl rfl rfl ?_
            refine zz_getR (q := 54) C gf_M_54 (by decide +kernel) rfl (by first | rfl | assumption) (hok 19 90 60 rfl).1 ?_
            refine zz_iload_n (q := 55) (f := 3) (i := 3) C (by decide +kernel) rfl rfl rfl ?_
            refine zz_iconst (q := 56) (n := 1) (x := 1) C (by decide +kernel) rfl (by decide +kernel) ?_
            refine zz_isub (q := 57) C (by decide +kernel) rfl (nI_predE hal) ?_
            refine zz_iaload (q := 58) C (by decide +kernel) rfl rfl (hok 19 90 60 rfl).2 rfl (by omega) (by decide) (mX_last hXA) ?_
            refine zz_iastore (q := 59) C (by decide +kernel) rfl rfl (hok 19 90 60 rfl).2 (congrArg nI hal) (by omega) (by decide) ?_
            refine zz_iinc (q := 62) (i := 3) (n := -1) C (by decide +kernel) rfl rfl (nI_pred9E hal) (by decide) rfl ?_
            refine zz_goto (off := -37) (tgt := 25) C (by decide +kernel) (by decide) ?_
            -- AT 25
            obtain ⟨q1, q2⟩ := mX_shift hXA hXB
            exact ih A (e9 :: B) _ (by omega) (by rw [hLs]; simp) (fun e8 he8 => (List.mem_cons.mp he8).elim (fun z => z ▸ zz_b_t c42) (hB e8)) q1 q2 (mFr_s hfr)
    have lp8 : ∀ y, mVl h r sw 60 y → ∀ n i Ls x v3, 61 ≤ n + i → i ≤ 60 → mSrt (mFst (mo_ly h y) r t2) (mLive h r) i Ls → mX (mf h r 19) x 0 Ls → mFr h r x → zz_Z p l e { frames := 4, cells := 0, slots := 0, locals := 85 } s m args below meth c Q D DA (zz_A h s.heap.size) h 4 8 [some (zz_r 7 (some r)), some (zz_i (nI Ls.length)), some (zz_i (nI i)), v3] [] (mo_rx (mo_ly h y) x) 0 0 := by
      intro y hv n
      induction n with
      | zero =>
        intro i Ls x v3 hn hi
        exact absurd hn (by omega)
      | succ n ih =>
        intro i Ls x v3 hn hile hsr hX hfr
        have hsm : mo_sm r (mo_ly h y) (mo_rx (mo_ly h y) x) := mo_rx_sm hap hfr
        refine zz_iload_n (q := 9) (f := 2) (i := 2) C (by decide +kernel) rfl rfl rfl ?_
        refine zz_bipush (q := 11) (n := 60) (x := 60) C (by decide +kernel) rfl (by decide +kernel) ?_
        refine zz_icmp_ge (off := 70) (tgt := 81) (q := 14) C (by decide +kernel) (by decide) rfl (fun c11 => ?_) (fun c11 => ?_)
        · refine zz_vret C hr hlk (by decide +kernel) hQ (by decide) (by decide) ?_
          have he : i = 60 := by
            have := ((nI_leI (a := 60) (b := i) (by decide) (by omega)).mp c11)
            omega
          subst he
          exact hp y Ls x hv hsr hX hfr
        · have hi : i < 60 := Nat.lt_of_not_le (fun z => c11 (nI_le (a := 60) z (by omega)))
          refine zz_aload_n (q := 15) (f := 0) (i := 0) C (by decide +kernel) rfl rfl rfl ?_
          refine zz_getR (q := 18) C gf_M_39 (by decide +kernel) rfl (by first | rfl | assumption) (hok 14 90 60 rfl).1 ?_
          refine zz_iload_n (q := 19) (f := 2) (i := 2) C (by decide +kernel) rfl rfl rfl ?_
          refine zz_iaload (q := 20) C (by decide +kernel) rfl rfl (hok 14 90 60 rfl).2 rfl (by omega) (by decide) (mo_sm_a hsm 14 (by decide) (by decide) i) ?_
          refine zz_if_le (off := 55) (tgt := 75) (q := 23) C (by decide +kernel) (by decide) rfl (fun c20 => ?_) (fun c20 => ?_)
          · refine zz_iinc (q := 78) (i := 2) (n := 1) C (by decide +kernel) rfl rfl (nI_1 _) (by decide) rfl ?_
            refine zz_goto (off := -70) (tgt := 8) C (by decide +kernel) (by decide) ?_
            -- AT 8
            exact ih (i + 1) Ls x _ (by omega) (by omega) (Or.inr ⟨fun z => absurd z.2 (Int32.not_lt.mpr c20), hsr⟩) hX hfr
          · refine zz_iload_n (q := 24) (f := 1) (i := 1) C (by decide +kernel) rfl rfl rfl ?_
            refine zz_istore_n (q := 25) (f := 3) (i := 3) C (by decide +kernel) rfl rfl (by decide) rfl ?_
            -- AT 25
            exact lp25 y i Ls ⟨hi, Int32.not_le.mp c20⟩ hsr (fun Ls2 x2 v2 q1 q2 q3 => ih (i + 1) Ls2 x2 v2 (by omega) (by omega) (Or.inl ⟨⟨hi, Int32.not_le.mp c20⟩, Ls, hsr, q1⟩) q2 q3) (Ls.length + 1) Ls [] x (by omega) (List.append_nil _).symm (fun _ z => by cases z) hX (fun j a hj => by cases hj) hfr
    refine zz_aload_n (q := 1) (f := 0) (i := 0) C (by decide +kernel) rfl rfl rfl ?_
    refine zz_callV (q := 4) C (m_M_findValues l) cv_M_138 (by decide +kernel) rfl rfl rfl (by first | rfl | assumption) (by decide) (by decide) (Nat.le_of_ble_eq_true rfl) ⟨_, sw, rfl, hsw, hse, hok, hwl, fun y hv => ?_⟩
    refine zz_iconst (q := 5) (n := 0) (x := 0) C (by decide +kernel) rfl (by decide +kernel) ?_
    refine zz_istore_n (q := 6) (f := 1) (i := 1) C (by decide +kernel) rfl rfl (by decide) rfl ?_
    refine zz_iconst (q := 7) (n := 0) (x := 0) C (by decide +kernel) rfl (by decide +kernel) ?_
    refine zz_istore_n (q := 8) (f := 2) (i := 2) C (by decide +kernel) rfl rfl (by decide) rfl ?_
    -- AT 8
    exact lp8 y hv 61 0 [] (zz_aI h) none (by omega) (by omega) rfl (fun j a hj => by cases hj) (fun _ _ _ => rfl)

/-! the reference: heaps the same but for one array that says nothing of who stands above whom -/
def mo_sd (r d : Nat) (h h' : zz_H) : Prop := (d ≠ 3 ∧ d ≠ 14 ∧ d ≠ 15 ∧ d ≠ 16) ∧ zz_fR h' = zz_fR h ∧ zz_tg h' = zz_tg h ∧ ∀ j, mo_sz j ≠ none → j ≠ d → ∀ i, ma h' r j i = ma h r j i
section SD
variable {r d : Nat} {h h' : zz_H}
theorem mo_sd_a (e : mo_sd r d h h') (j : Nat) (h1 : mo_sz j ≠ none) (h2 : j ≠ d) (i : Nat) : ma h' r j i = ma h r j i := e.2.2.2 j h1 h2 i
theorem mo_sd_K (e : mo_sd r d h h') (s : Nat) : mK h' r s = mK h r s := by rw [mK, mK, mo_sd_a e 15 (by decide) e.1.2.2.1.symm]
theorem mo_sd_T (e : mo_sd r d h h') (s : Nat) : mT h' r s = mT h r s := by rw [mT, mT, mo_sd_a e 3 (by decide) e.1.1.symm]
theorem mo_sd_Lv (e : mo_sd r d h h') (s : Nat) : mLv h' r s = mLv h r s := by rw [mLv, mLv, mo_sd_K e, mo_sd_T e]
theorem mo_sd_L (e : mo_sd r d h h') (s : Nat) : mLive h' r s = mLive h r s := by rw [mLive, mLive, mo_sd_a e 14 (by decide) e.1.2.1.symm]
theorem mo_sd_P (e : mo_sd r d h h') (s : Nat) : mP h' r s = mP h r s := by rw [mP, mP, mo_sd_a e 16 (by decide) e.1.2.2.2.symm]
theorem mo_sd_wl (e : mo_sd r d h h') (hw : mo_wl h r) : mo_wl h' r := fun s hs => by
  rw [mo_sd_L e] at hs
  have := hw s hs
  rw [mo_sd_a e 15 (by decide) e.1.2.2.1.symm, mo_sd_a e 3 (by decide) e.1.1.symm, mo_sd_a e 16 (by decide) e.1.2.2.2.symm, mo_sd_K e, mo_sd_Lv e]
  obtain ⟨e1, e2, e3, e4, e5, e6⟩ := this
  refine ⟨e1, e2, e3, e4, e5, e6.elim Or.inl (fun ⟨p, g1, g2, g3⟩ => Or.inr ⟨p, by rw [mo_sd_L e]; exact g1, g2, by rw [mo_sd_Lv e]; exact g3⟩)⟩
theorem mo_sd_Bo (e : mo_sd r d h h') (p : Nat) : ∀ n o, mBo h' r p n o = mBo h r p n o
  | 0, none => rfl
  | _ + 1, none => rfl
  | 0, some _ => rfl
  | n + 1, some x => by
    show (x = p ∨ mBo h' r p n (mP h' r x)) = (x = p ∨ mBo h r p n (mP h r x))
    rw [mo_sd_P e, mo_sd_Bo e p n]
theorem mo_sd_ok (e : mo_sd r d h h') (hok : mo_ok h r) : mo_ok h' r := fun j ty n hj => by
  have e1 : mf h' r j = mf h r j := by rw [mf, mf, e.2.1]
  rw [e1, e.2.1, e.2.2.1]
  exact hok j ty n hj
theorem mo_sd_rx {x : Nat → Nat → Int32} (hd : d ≠ 3 ∧ d ≠ 14 ∧ d ≠ 15 ∧ d ≠ 16) (h9 : mo_sz d ≠ none) (hap : mo_ap h r) (hx : ∀ b j, b ≠ mf h r d → x b j = zz_aI h b j) : mo_sd r d h (mo_rx h x) := ⟨hd, rfl, rfl, fun j h1 h2 i => hx _ _ (hap j d h1 h9 h2)⟩
end SD
/-! a new object: the class's heap -/
set_option maxHeartbeats 4000000 in
theorem CI_nw {b L x : Nat} {xs : Nat → Int32} {h9 : zz_H} (hx : x ≠ b) (hn : T_nw (zz_new (zz_hs b L xs) 0 x) x h9) : CI h9 x := by
  obtain ⟨k, w, p, bb, h1, h2, h3, h4, od, ob, on, ps, t1, t2, t3, t4, s1, s2, s3, s4, t5, t6, t7, t8, rfl⟩ := hn
  generalize eh : zz_new (zz_hs b L xs) 0 x = h at t1 t2 t3 t4 s1
  have aRh : ∀ d j, zz_aR h d j = none := fun d j => by rw [← eh]; rfl
  have nth : ∀ d t, zz_tg h d = some t → t.1 ≠ 1 ∧ t.1 ≠ 2 := fun d t hd => by
    rw [← eh, zz_tg_new] at hd
    by_cases e : d = x
    · rw [if_pos e] at hd; cases hd; exact ⟨by decide, by decide⟩
    · rw [if_neg e] at hd
      rw [(zz_hs_tg hd).2]; exact ⟨show (93 : Nat) ≠ 1 by decide, show (93 : Nat) ≠ 2 by decide⟩
  have fRh : ∀ c j d, zz_fR h c j d = none := fun c j d => by
    rw [← eh]
    show (if c = 0 ∧ d = x then none else none) = none
    by_cases e : c = 0 ∧ d = x
    · rw [if_pos e]
    · rw [if_neg e]
  have fIh : ∀ c j d, zz_fI h c j d = 0 := fun c j d => by
    rw [← eh]
    show (if c = 0 ∧ d = x then (0 : Int32) else 0) = 0
    by_cases e : c = 0 ∧ d = x
    · rw [if_pos e]
    · rw [if_neg e]
  -- in front of the levels
  have kT : zz_tg (zz_newA h 101 8 k) k = some (101, 8) := if_pos rfl
  have wT : zz_tg (zz_newA (zz_newA h 101 8 k) 90 4 w) w = some (90, 4) := if_pos rfl
  have kT2 : zz_tg (zz_newA (zz_newA h 101 8 k) 90 4 w) k = some (101, 8) := zz_tg_old kT t2
  have kT3 : zz_tg (T_n1 h x k w p) k = some (101, 8) := zz_tg_oldO (h := zz_newA (zz_newA h 101 8 k) 90 4 w) kT2 t3
  have wT3 : zz_tg (T_n1 h x k w p) w = some (90, 4) := zz_tg_oldO (h := zz_newA (zz_newA h 101 8 k) 90 4 w) wT t3
  generalize eH : zz_pR (zz_newA (T_n1 h x k w p) 103 4 bb) 4 0 p (some bb) = H0 at s1
  have kT4 : zz_tg H0 k = some (101, 8) := by rw [← eH]; exact zz_tg_old (h := T_n1 h x k w p) kT3 t4
  have wT4 : zz_tg H0 w = some (90, 4) := by rw [← eH]; exact zz_tg_old (h := T_n1 h x k w p) wT3 t4
  have bT4 : zz_tg H0 bb = some (103, 4) := by rw [← eH]; exact if_pos rfl
  have kb : k ≠ bb := zz_tg_ne kT3 t4
  have wb : w ≠ bb := zz_tg_ne wT3 t4
  have kw : k ≠ w := zz_tg_ne kT t2
  have x00 : zz_fR H0 0 0 x = some k := by rw [← eH]; exact zz_pR_a (zz_newA h 101 8 k) 0 0 x (some k)
  have x01 : zz_fR H0 0 1 x = some w := by rw [← eH]; exact zz_pR_a (zz_newA (zz_pR (zz_newA h 101 8 k) 0 0 x (some k)) 90 4 w) 0 1 x (some w)
  have x05 : zz_fR H0 0 5 x = none := by rw [← eH]; exact fRh 0 5 x
  have x06 : zz_fR H0 0 6 x = none := by rw [← eH]; exact fRh 0 6 x
  have p40 : zz_fR H0 4 0 p = some bb := by rw [← eH]; exact zz_pR_a (zz_newA (T_n1 h x k w p) 103 4 bb) 4 0 p (some bb)
  have fI0 : zz_fI H0 = (fun _ _ _ => 0) := by
    rw [← eH]
    funext c j d
    show (if c = 4 ∧ d = p then (0 : Int32) else zz_fI h c j d) = 0
    by_cases e : c = 4 ∧ d = p
    · rw [if_pos e]
    · rw [if_neg e]; exact fIh c j d
  have aR0 : ∀ j, zz_aR H0 k j = none := fun j => by
    rw [← eH]
    show (if k = bb then none else if k = w then none else if k = k then none else zz_aR h k j) = none
    rw [if_neg kb, if_neg kw, if_pos rfl]
  have aI0 : ∀ j, zz_aI H0 w j = 0 := fun j => by
    rw [← eH]
    show (if w = bb then (0 : Int32) else if w = w then 0 else if w = k then 0 else zz_aI h w j) = 0
    rw [if_neg wb, if_pos rfl]
  have nt0 : ∀ d t, zz_tg H0 d = some t → t.1 ≠ 1 ∧ t.1 ≠ 2 := fun d t hd => by
    rw [← eH] at hd
    have hd : (if d = bb then some (103, 4) else if d = p then some (4, 0) else if d = w then some (90, 4) else if d = k then some (101, 8) else zz_tg h d) = some t := hd
    by_cases e1 : d = bb
    · rw [if_pos e1] at hd; cases hd; exact ⟨by decide, by decide⟩
    · rw [if_neg e1] at hd
      by_cases e2 : d = p
      · rw [if_pos e2] at hd; cases hd; exact ⟨by decide, by decide⟩
      · rw [if_neg e2] at hd
        by_cases e3 : d = w
        · rw [if_pos e3] at hd; cases hd; exact ⟨by decide, by decide⟩
        · rw [if_neg e3] at hd
          by_cases e4 : d = k
          · rw [if_pos e4] at hd; cases hd; exact ⟨by decide, by decide⟩
          · rw [if_neg e4] at hd; exact nth d t hd
  -- the levels
  obtain ⟨l1, k1⟩ := PL_st (m := 0) (fun i hi => absurd hi (by omega)) bT4 s1
  have bT5 := k1.2.2.1 _ _ bT4
  obtain ⟨l2, k2⟩ := PL_st l1 bT5 s2
  have bT6 := k2.2.2.1 _ _ bT5
  obtain ⟨l3, k3⟩ := PL_st l2 bT6 s3
  have bT7 := k3.2.2.1 _ _ bT6
  obtain ⟨l4, k4⟩ := PL_st l3 bT7 s4
  have bT8 := k4.2.2.1 _ _ bT7
  have tk : ∀ d t, zz_tg H0 d = some t → zz_tg h4 d = some t := fun d t hd => k4.2.2.1 _ _ (k3.2.2.1 _ _ (k2.2.2.1 _ _ (k1.2.2.1 _ _ hd)))
  have fR4 : ∀ c, c ≠ 3 → zz_fR h4 c = zz_fR H0 c := fun c hc => (k4.1 c hc).trans ((k3.1 c hc).trans ((k2.1 c hc).trans (k1.1 c hc)))
  have fI4 : zz_fI h4 = (fun _ _ _ => 0) := k4.2.1 (k3.2.1 (k2.2.1 (k1.2.1 fI0)))
  have nt4 : ∀ d t, zz_tg h4 d = some t → t.1 ≠ 1 ∧ t.1 ≠ 2 := fun d t hd => by
    rcases k4.2.2.2.1 d t hd with hd | z
    · rcases k3.2.2.2.1 d t hd with hd | z
      · rcases k2.2.2.2.1 d t hd with hd | z
        · rcases k1.2.2.2.1 d t hd with hd | z
          · exact nt0 d t hd
          · exact z
        · exact z
      · exact z
    · exact z
  have aR4 : zz_aR h4 k = zz_aR H0 k := by
    have q1 := k1.2.2.1 _ _ kT4
    have q2 := k2.2.2.1 _ _ q1
    have q3 := k3.2.2.1 _ _ q2
    exact (k4.2.2.2.2.1 _ _ q3 kb).trans ((k3.2.2.2.2.1 _ _ q2 kb).trans ((k2.2.2.2.2.1 _ _ q1 kb).trans (k1.2.2.2.2.1 _ _ kT4 kb)))
  have aI4 : zz_aI h4 w = zz_aI H0 w := by
    have q1 := k1.2.2.1 _ _ wT4
    have q2 := k2.2.2.1 _ _ q1
    have q3 := k3.2.2.1 _ _ q2
    exact (k4.2.2.2.2.2 _ _ q3).trans ((k3.2.2.2.2.2 _ _ q2).trans ((k2.2.2.2.2.2 _ _ q1).trans (k1.2.2.2.2.2 _ _ wT4)))
  -- behind the levels
  have old : ∀ {d : Nat} {t : Nat × Nat}, zz_tg h4 d = some t → d ≠ od ∧ d ≠ ob ∧ d ≠ on ∧ d ≠ ps := fun {d t} hd =>
    ⟨zz_tg_ne hd t5, zz_tg_ne (h := zz_new h4 5 od) (zz_tg_oldO hd t5) t6, zz_tg_ne (h := zz_newA (zz_new h4 5 od) 102 60 ob) (zz_tg_old (zz_tg_oldO hd t5) t6) t7, zz_tg_ne (h := zz_newA (zz_newA (zz_new h4 5 od) 102 60 ob) 102 60 on) (zz_tg_old (zz_tg_old (zz_tg_oldO hd t5) t6) t7) t8⟩
  have odT : zz_tg (zz_new h4 5 od) od = some (5, 0) := if_pos rfl
  have obT : zz_tg (zz_newA (zz_new h4 5 od) 102 60 ob) ob = some (102, 60) := if_pos rfl
  have onT : zz_tg (zz_newA (zz_newA (zz_new h4 5 od) 102 60 ob) 102 60 on) on = some (102, 60) := if_pos rfl
  have obn : ob ≠ on := zz_tg_ne obT t7
  have obT2 := zz_tg_old (ty := 102) (n := 60) obT t7
  have obp : ob ≠ ps := zz_tg_ne obT2 t8
  have onp : on ≠ ps := zz_tg_ne onT t8
  generalize e9 : zz_pR (zz_new (zz_pR (O_nw (zz_new (zz_pR h4 0 2 x (some p)) 5 od) od ob on) 0 3 x (some od)) 6 ps) 0 4 x (some ps) = h9
  have tg : ∀ d, zz_tg h9 d = if d = ps then some (6, 0) else if d = on then some (102, 60) else if d = ob then some (102, 60) else if d = od then some (5, 0) else zz_tg h4 d := fun d => by rw [← e9]; rfl
  have t9 : ∀ d t, zz_tg h4 d = some t → zz_tg h9 d = some t := fun d t hd => by
    obtain ⟨o1, o2, o3, o4⟩ := old hd
    rw [tg, if_neg o4, if_neg o3, if_neg o2, if_neg o1]; exact hd
  have fI9 : ∀ c j d, zz_fI h9 c j d = 0 := fun c j d => by
    rw [← e9]
    show (if c = 6 ∧ d = ps then (0 : Int32) else if c = 5 ∧ d = od then 0 else zz_fI h4 c j d) = 0
    rw [fI4]
    by_cases e1 : c = 6 ∧ d = ps
    · rw [if_pos e1]
    · rw [if_neg e1]
      by_cases e2 : c = 5 ∧ d = od
      · rw [if_pos e2]
      · rw [if_neg e2]
  have ar9 : ∀ d t, zz_tg h4 d = some t → zz_aR h9 d = zz_aR h4 d := fun d t hd => by
    obtain ⟨o1, o2, o3, o4⟩ := old hd
    rw [← e9]
    funext j
    show (if d = on then none else if d = ob then none else zz_aR h4 d j) = _
    rw [if_neg o3, if_neg o2]
  have ai9 : zz_aI h9 w = zz_aI h4 w := by
    obtain ⟨o1, o2, o3, o4⟩ := old (tk _ _ wT4)
    rw [← e9]
    funext j
    show (if w = on then (0 : Int32) else if w = ob then 0 else zz_aI h4 w j) = _
    rw [if_neg o3, if_neg o2]
  have y00 : zz_fR h9 0 0 x = some k := by rw [← e9]; show zz_fR h4 0 0 x = _; rw [fR4 0 (by decide)]; exact x00
  have y01 : zz_fR h9 0 1 x = some w := by rw [← e9]; show zz_fR h4 0 1 x = _; rw [fR4 0 (by decide)]; exact x01
  have y05 : zz_fR h9 0 5 x = none := by rw [← e9]; show zz_fR h4 0 5 x = _; rw [fR4 0 (by decide)]; exact x05
  have y06 : zz_fR h9 0 6 x = none := by rw [← e9]; show zz_fR h4 0 6 x = _; rw [fR4 0 (by decide)]; exact x06
  have y02 : zz_fR h9 0 2 x = some p := by rw [← e9]; exact zz_pR_a h4 0 2 x (some p)
  have y03 : zz_fR h9 0 3 x = some od := by rw [← e9]; exact zz_pR_a (O_nw (zz_new (zz_pR h4 0 2 x (some p)) 5 od) od ob on) 0 3 x (some od)
  have y04 : zz_fR h9 0 4 x = some ps := by rw [← e9]; exact zz_pR_a _ 0 4 x (some ps)
  have y40 : zz_fR h9 4 0 p = some bb := by rw [← e9]; show zz_fR h4 4 0 p = _; rw [fR4 4 (by decide)]; exact p40
  have y50 : zz_fR h9 5 0 od = some ob := by rw [← e9]; exact zz_pR_a (zz_newA (zz_new (zz_pR h4 0 2 x (some p)) 5 od) 102 60 ob) 5 0 od (some ob)
  have y51 : zz_fR h9 5 1 od = some on := by rw [← e9]; exact zz_pR_a _ 5 1 od (some on)
  have y53 : zz_fR h9 5 3 od = none := by rw [← e9]; exact if_pos ⟨rfl, rfl⟩
  have y60 : zz_fR h9 6 0 ps = none := by rw [← e9]; exact if_pos ⟨rfl, rfl⟩
  have y3 : zz_fR h9 3 = zz_fR h4 3 := by rw [← e9]; rfl
  have ekd : t_kd h9 x = k := by rw [t_kd, y00]; rfl
  have eww : t_ww h9 x = w := by rw [t_ww, y01]; rfl
  have epa : t_pa h9 x = p := by rw [t_pa, y02]; rfl
  have eod : t_od h9 x = od := by rw [t_od, y03]; rfl
  have eps : t_ps h9 x = ps := by rw [t_ps, y04]; rfl
  have epaa : pa_a h9 p = bb := by rw [pa_a, y40]; rfl
  have epl : ∀ i, pa_l h9 p i = la h4 bb i := fun i => by rw [pa_l, epaa, ar9 _ _ bT8]; rfl
  have eob : or_b h9 od = ob := by rw [or_b, y50]; rfl
  have eon : or_n h9 od = on := by rw [or_n, y51]; rfl
  have ew : ∀ a, pl_w h9 a = pl_w h4 a := fun a => by rw [pl_w, y3]; rfl
  have eo : ∀ a, pl_o h9 a = pl_o h4 a := fun a => by rw [pl_o, y3]; rfl
  have en : ∀ a, pl_n h9 a = pl_n h4 a := fun a => by rw [pl_n, y3]; rfl
  unfold CI c_sk t_ok
  rw [ekd, eww, epa, eod, eps, epaa, eob, eon]
  refine ⟨⟨⟨y00, y01, y02, y03, y04, t9 _ _ (tk _ _ kT4), t9 _ _ (tk _ _ wT4)⟩, ⟨y40, t9 _ _ bT8, fun i hi => ?_⟩, fun i j hi hj => ?_, y50, y51, ?_, ?_, obn⟩, fun a t ha => ?_, fun t ht => ?_, fun i hi => ⟨?_, fI9 _ _ _⟩, fun i hi => ?_, fI9 _ _ _, y60, fI9 _ _ _, fI9 _ _ _, fI9 _ _ _, y53, fI9 _ _ _, y05, y06⟩
  · obtain ⟨q1, -, ⟨q2, q3, q4, q5, q6, q7⟩, -⟩ := l4 i hi
    rw [epl i, ar9 _ _ bT8]
    refine ⟨q1, ?_⟩
    unfold pl_sk
    rw [ew, eo, en, y3]
    exact ⟨q2, q3, q4, t9 _ _ q5, t9 _ _ q6, t9 _ _ q7⟩
  · rw [epl i, epl j, ew, eo, en, ew, eo, en]
    exact (l4 i hi).2.2.2.2 j hj
  · rw [tg, if_neg obp, if_neg obn, if_pos rfl]
  · rw [tg, if_neg onp, if_pos rfl]
  · rw [tg] at ha
    by_cases e1 : a = ps
    · rw [if_pos e1] at ha; cases ha; exact ⟨by decide, by decide⟩
    · rw [if_neg e1] at ha
      by_cases e2 : a = on
      · rw [if_pos e2] at ha; cases ha; exact ⟨by decide, by decide⟩
      · rw [if_neg e2] at ha
        by_cases e3 : a = ob
        · rw [if_pos e3] at ha; cases ha; exact ⟨by decide, by decide⟩
        · rw [if_neg e3] at ha
          by_cases e4 : a = od
          · rw [if_pos e4] at ha; cases ha; exact ⟨by decide, by decide⟩
          · rw [if_neg e4] at ha; exact nt4 a t ha
  · rw [ar9 _ _ (tk _ _ kT4), aR4]; exact aR0 t
  · rw [epl i, y3]; exact (l4 i hi).2.2.2.1
  · rw [ai9, aI4]; exact aI0 i
/-! the relation holds of new objects -/
theorem mo_all {j : Nat} (h : mo_sz j ≠ none) : j ∈ [27, 26, 25, 24, 23, 22, 21, 20, 19, 18, 17, 16, 15, 14, 8, 7, 6, 5, 4, 3, 2, 1] := by
  unfold mo_sz at h
  split at h <;> first | decide | exact absurd rfl h
set_option maxHeartbeats 4000000 in
theorem ok_init : st_init Rel := fun b L xs x hx => by
  refine ⟨_, ⟨x, rfl, fun h9 hn => ⟨rfl, fun r hr => ⟨_, ⟨r, rfl, fun g1 g2 g3 g4 g5 g6 g7 g8 g9 g10 g11 g12 g13 g14 g15 g16 g17 g18 g19 g20 g21 g22 g23 g24 g25 a8 a22 e1 e2 e3 e4 e5 e6 e7 e8 e9 e10 e11 e12 e13 e14 e15 e16 e17 e18 e19 e20 e21 e22 e23 e24 e25 f8 f22 hne => ⟨rfl, fun u hu => ?_⟩⟩, fun _ _ z => z⟩⟩⟩, fun _ _ z => z⟩
  have hC := CI_nw hx hn
  have s0 : MI (zz_new h9 7 r) x r (t_ww h9 x) [] (fun _ => 0) := by
    refine ⟨CI_fr hC (fun c hc => ?_) (fun c hc => ?_) (fun d t hd => zz_tg_oldO hd hr) (fun d t hd => ?_) (fun _ _ _ => rfl) rfl, rfl, ⟨⟨_, zz_tg_oldO hC.1.1.2.2.2.2.2.2 hr⟩, fun j hj => (by cases hj), fun j hj => (by cases hj)⟩, fun j => if_pos ⟨rfl, rfl⟩⟩
    · funext j d; exact if_neg (fun z => hc z.1)
    · funext j d; exact if_neg (fun z => hc z.1)
    · rw [zz_tg_new] at hd
      by_cases e : d = r
      · rw [if_pos e] at hd; cases hd; exact Or.inr ⟨by decide, by decide⟩
      · rw [if_neg e] at hd; exact Or.inl hd
  generalize t_ww h9 x = w at s0
  have s1 := MI_st s0 e1 rfl (by decide) ⟨by decide, by decide⟩
  have s2 := MI_st s1 e2 rfl (by decide) ⟨by decide, by decide⟩
  have s3 := MI_st s2 e3 rfl (by decide) ⟨by decide, by decide⟩
  have s4 := MI_st s3 e4 rfl (by decide) ⟨by decide, by decide⟩
  have s5 := MI_st s4 e5 rfl (by decide) ⟨by decide, by decide⟩
  have s6 := MI_st s5 e6 rfl (by decide) ⟨by decide, by decide⟩
  have s7 := MI_st s6 e7 rfl (by decide) ⟨by decide, by decide⟩
  have s8 := MI_st s7 e8 rfl (by decide) ⟨by decide, by decide⟩
  have s9 := MI_p s8 9 (-1)
  rw [← e9] at s9
  have s10 := MI_st s9 e10 rfl (by decide) ⟨by decide, by decide⟩
  have s11 := MI_st s10 e11 rfl (by decide) ⟨by decide, by decide⟩
  have s12 := MI_st s11 e12 rfl (by decide) ⟨by decide, by decide⟩
  have s13 := MI_st s12 e13 rfl (by decide) ⟨by decide, by decide⟩
  have s14 := MI_st s13 e14 rfl (by decide) ⟨by decide, by decide⟩
  have s15 := MI_st s14 e15 rfl (by decide) ⟨by decide, by decide⟩
  have s16 := MI_st s15 e16 rfl (by decide) ⟨by decide, by decide⟩
  have s17 := MI_st s16 e17 rfl (by decide) ⟨by decide, by decide⟩
  have s18 := MI_st s17 e18 rfl (by decide) ⟨by decide, by decide⟩
  have s19 := MI_st s18 e19 rfl (by decide) ⟨by decide, by decide⟩
  have s20 := MI_st s19 e20 rfl (by decide) ⟨by decide, by decide⟩
  have s21 := MI_st s20 e21 rfl (by decide) ⟨by decide, by decide⟩
  have s22 := MI_st s21 e22 rfl (by decide) ⟨by decide, by decide⟩
  have s23 := MI_st s22 e23 rfl (by decide) ⟨by decide, by decide⟩
  have s24 := MI_p s23 30 (-1)
  rw [← e24] at s24
  have s25 := MI_p s24 31 (-1)
  rw [← e25] at s25
  obtain ⟨i1, i2, ⟨-, i3, i4⟩, i5⟩ := s25
  have ef8 : mf g25 r 8 = a8 := by rw [mf, f8]; rfl
  have ef22 : mf g25 r 22 = a22 := by rw [mf, f22]; rfl
  have m8 := i3 8 (by decide)
  have m22 := i3 22 (by decide)
  have w8 : w ≠ a8 := by obtain ⟨_, _, _, _, _, q, _⟩ := m8; rw [ef8] at q; exact q.symm
  have w22 : w ≠ a22 := by obtain ⟨_, _, _, _, _, q, _⟩ := m22; rw [ef22] at q; exact q.symm
  have tG : zz_tg (mo_fl (mo_fl g25 a8 8) a22 5) = zz_tg g25 := rfl
  have hu0 : zz_tg g25 u = none := hu
  have aIG : ∀ d i, zz_aI (mo_fl (mo_fl g25 a8 8) a22 5) d i = if d = a22 ∧ i < 5 then -1 else if d = a8 ∧ i < 8 then -1 else zz_aI g25 d i := fun d i => rfl
  have hCG : CI (mo_fl (mo_fl g25 a8 8) a22 5) x := CI_fr i1 (fun _ _ => rfl) (fun _ _ => rfl) (fun _ _ z => z) (fun _ _ z => Or.inl z) (fun _ _ _ => rfl) (by
    funext i
    rw [aIG, i2, if_neg (fun z => w22 z.1), if_neg (fun z => w8 z.1)])
  have hCU : CI (zz_newA (mo_fl (mo_fl g25 a8 8) a22 5) 92 1 u) x := CI_newA hCG hu ⟨by decide, by decide⟩
  generalize eU : zz_newA (mo_fl (mo_fl g25 a8 8) a22 5) 92 1 u = hf at hCU
  have mfU : ∀ j, mf hf r j = mf g25 r j := fun j => by rw [← eU]; rfl
  have tU : ∀ d t, zz_tg g25 d = some t → zz_tg hf d = some t := fun d t hd => by rw [← eU]; exact zz_tg_old (h := mo_fl (mo_fl g25 a8 8) a22 5) hd hu
  have hok : mo_ok hf r := fun j ty n hj => by
    obtain ⟨ty', n', q1, q2, q3, -⟩ := i3 j (mo_all (by rw [hj]; exact fun z => by cases z))
    rw [hj] at q1
    cases q1
    rw [mfU]
    exact ⟨by rw [← eU]; exact q2, tU _ _ q3⟩
  have hap : mo_ap hf r := fun i j h1 h2 h3 => by rw [mfU, mfU]; exact i4 i (mo_all h1) j (mo_all h2) h3
  have val : ∀ j, mS j = true → ∀ i, mA hf r j i = if j = 22 ∧ i < 5 then -1 else if j = 8 ∧ i < 8 then -1 else 0 := fun j hj i => by
    have hs := (mS_sz hj).1
    obtain ⟨ty', n', q1, q2, q3, q4, q5⟩ := i3 j (mo_all hs)
    have nu : mf g25 r j ≠ u := zz_tg_ne q3 hu0
    have e1 : mA hf r j i = zz_aI hf (mf g25 r j) i := by
      unfold mA
      rw [if_pos hj, ma, mfU]
    have e2 : zz_aI hf (mf g25 r j) i = zz_aI (mo_fl (mo_fl g25 a8 8) a22 5) (mf g25 r j) i := by rw [← eU]; exact if_neg nu
    rw [e1, e2, aIG, q5]
    by_cases c1 : j = 22
    · subst c1
      rw [ef22]
      by_cases c2 : i < 5
      · rw [if_pos ⟨rfl, c2⟩, if_pos ⟨rfl, c2⟩]
      · rw [if_neg (fun z => c2 z.2), if_neg (fun z => hne z.1.symm), if_neg (fun z => c2 z.2), if_neg (fun z => absurd z.1 (by decide))]
    · have n22 : mf g25 r j ≠ a22 := by rw [← ef22]; exact i4 j (mo_all hs) 22 (by decide) c1
      rw [if_neg (fun z => n22 z.1), if_neg (c := j = 22 ∧ i < 5) (fun z => c1 z.1)]
      by_cases c8 : j = 8
      · subst c8
        rw [ef8]
        by_cases c2 : i < 8
        · rw [if_pos ⟨rfl, c2⟩, if_pos ⟨rfl, c2⟩]
        · rw [if_neg (fun z => c2 z.2), if_neg (fun z => c2 z.2)]
      · have n8 : mf g25 r j ≠ a8 := by rw [← ef8]; exact i4 j (mo_all hs) 8 (by decide) c8
        rw [if_neg (fun z => n8 z.1), if_neg (fun z => c8 z.1)]
  have v1 : ∀ i, mA hf r 1 i = 0 := fun i => val 1 rfl i
  have v14 : ∀ i, mA hf r 14 i = 0 := fun i => val 14 rfl i
  have v23 : ∀ i, mA hf r 23 i = 0 := fun i => val 23 rfl i
  have v27 : ∀ i, mA hf r 27 i = 0 := fun i => val 27 rfl i
  have v8 : ∀ i, i < 8 → mA hf r 8 i = -1 := fun i hi => (val 8 rfl i).trans ((if_neg (fun z => absurd z.1 (by decide))).trans (if_pos ⟨rfl, hi⟩))
  have v22 : ∀ i, i < 5 → mA hf r 22 i = -1 := fun i hi => (val 22 rfl i).trans (if_pos ⟨rfl, hi⟩)
  have fU : ∀ j, j ≠ 0 → mQ hf r j = qU (qU (qU (fun _ => 0) 9 (-1)) 30 (-1)) 31 (-1) j := fun j hj => by
    rw [← i5 j, ← eU]
    exact if_neg hj
  have q9 : mQ hf r 9 = -1 := fU 9 (by decide)
  have q11 : mQ hf r 11 = 0 := fU 11 (by decide)
  have q12 : mQ hf r 12 = 0 := fU 12 (by decide)
  have q13 : mQ hf r 13 = 0 := fU 13 (by decide)
  have q28 : mQ hf r 28 = 0 := fU 28 (by decide)
  have q30 : mQ hf r 30 = -1 := fU 30 (by decide)
  have q31 : mQ hf r 31 = -1 := fU 31 (by decide)
  have nl : ∀ s, ¬ aLive (mA hf r) s := fun s z => by
    have := z.2
    rw [v14] at this
    exact absurd this (by decide)
  have n1 : ∀ t, ¬ mA hf r 1 t ≠ 0 := fun t z => z (v1 t)
  have c23 : ∀ l, aC (mA hf r) l = 0 := fun l => by rw [aC, v23]; rfl
  have eww : t_ww hf x = w := by rw [← eU]; exact i2
  refine ⟨hok, hap, by rw [← eU]; exact if_pos rfl, fun _ => 0, fun _ => 0, [], [], 0, 0, ?_, ?_⟩
  · refine ⟨fun s ls => absurd ls (nl s), fun t _ d => absurd d (n1 t), fun s ls => absurd ls (nl s), fun l _ => ?_, fun a b la => absurd la (nl a), ?_, ⟨0, Nat.le_refl _, q12, fun s ls => absurd ls (nl s)⟩, ⟨by decide, Or.inl q11, Or.inl ⟨q9, q11⟩⟩, fun l l1 l5 => Or.inl ⟨v22 l l5, v23 l⟩, fun t t8 => Or.inl (v8 t t8), fun s ls => absurd ls (nl s), Or.inl q30, Or.inl q31, fun s ls => absurd ls (nl s)⟩
    · rw [c23]
      exact ⟨v23 l, by omega, fun k hk => absurd hk (by omega)⟩
    · have : ([] : List Nat).length = mCnt (aLive (mA hf r)) 60 := mCnt_len 60 [] List.nodup_nil (fun s => ⟨fun z => (by cases z), fun z => absurd z.2 (nl s)⟩)
      rw [q13, ← this]; rfl
  · obtain ⟨d0, d1, d2, d3, d4, d5, d6, d7, d8, d9, d10, d11, d12, d13⟩ := hCU
    refine ⟨d0, ⟨?_, fun a m ha => absurd rfl (d1 a _ ha).2, fun a b m m' ha => absurd rfl (d1 a _ ha).2⟩, ⟨fun t t8 => ⟨fun _ => d2 t t8, fun d => absurd d (n1 t)⟩, fun k m hk => absurd rfl (d1 k _ hk).1⟩, ⟨fun a m ha => absurd rfl (d1 a _ ha).2, fun a m ha => absurd rfl (d1 a _ ha).2, fun s ls => absurd ls (nl s)⟩, fun l l4 => ⟨?_, ?_, fun i hi => ?_⟩, fun i i4 => ?_, ⟨d5, rfl, fun i e he => (by simp at he), fun i e he => (by simp at he), fun e => ⟨fun z => (by cases z), fun z => absurd z (nl e)⟩, fun e => ⟨fun z => (by cases z), fun z => absurd z (nl e)⟩, List.Pairwise.nil, fun _ _ => List.Pairwise.nil⟩, Or.inl ⟨q28, d6, d7, d8⟩, ?_, ?_, fun z => absurd q9 z, ?_, ?_, ?_⟩
    · obtain ⟨ty', n', q1, q2, q3, q4, q5⟩ := i3 27 (by decide)
      rw [eww, mfU]; exact q4.symm
    · rw [(d3 l l4).1, oS_n (v22 (l + 1) (by omega))]
    · rw [(d3 l l4).2, v23]
    · rw [c23] at hi; exact absurd hi (by omega)
    · rw [d4 i i4, v27]
    · rw [d9, q12]
    · rw [d10, oS_n q9]
    · rw [d11, q11]
    · rw [d12, oS_n q30]
    · rw [d13, oS_n q31]
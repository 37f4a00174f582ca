theorem agr_no {c : cSt} {m : mSt} (h : zrel c m) (b : zO) : agr (.inr 6, c) (b, ((1, m.1.2), m.2)) := ⟨rfl, (fun v e => by cases e), h⟩
theorem agr_7 {c : cSt} {m : mSt} (h : zrel c m) (b : zO) : agr (.inr 7, c) (b, ((2, m.1.2), m.2)) := ⟨rfl, (fun v e => by cases e), h⟩
theorem agr_th {c : cSt} {m : mSt} (h : zrel c m) (v : Int32) : agr (.inl (some (.int v)), c) (.inl (some (.int v)), ((0, m.1.2), m.2)) := ⟨rfl, fun w e => e, h⟩
theorem r_st_c {a : cR} {su su' : Nat → Int32} {A : Nat} (h : r_st a su A) (e : ∀ j, j < 7 → su' (A + j) = su (A + j)) : r_st a su' A := by
  obtain ⟨h0, h⟩ := h
  refine ⟨(e 0 (by decide)).trans h0, ?_⟩
  rcases h with h | ⟨q, h1, h2, h3, h4, h5, h6⟩
  · exact Or.inl h
  · exact Or.inr ⟨q, ⟨(e 1 (by decide)).trans h1.1, h1.2⟩, (e 2 (by decide)).trans h2, (e 3 (by decide)).trans h3, ⟨(e 4 (by decide)).trans h4.1, h4.2⟩, ⟨(e 5 (by decide)).trans h5.1, h5.2⟩, ⟨(e 6 (by decide)).trans h6.1, h6.2⟩⟩
theorem j7 {P : Nat → Prop} (h0 : P 0) (h1 : P 1) (h2 : P 2) (h3 : P 3) (h4 : P 4) (h5 : P 5) (h6 : P 6) : ∀ j, j < 7 → P j := by
  intro j hj
  have : j = 0 ∨ j = 1 ∨ j = 2 ∨ j = 3 ∨ j = 4 ∨ j = 5 ∨ j = 6 := by omega
  rcases this with rfl | rfl | rfl | rfl | rfl | rfl | rfl <;> assumption
theorem sumF_c {f g : Nat → Int32} : ∀ n, (∀ i, i < n → f i = g i) → sumF f n = sumF g n := by
  intro n
  induction n with
  | zero => intro _; rfl
  | succ n ih =>
    intro h
    show 31 * sumF f n + f n = 31 * sumF g n + g n
    rw [ih (fun i hi => h i (by omega)), h n (by omega)]
/-- the frame's numbers, from the relation -/
theorem rel_fr {c : cSt} {m : mSt} (h : zrel c m) : ∃ X Y WW HH : Nat, X ≤ 1023 ∧ Y ≤ 1023 ∧ 1 ≤ WW ∧ WW ≤ 64 ∧ 1 ≤ HH ∧ HH ≤ 64 ∧ c.2.1.2 = (nI X, nI Y, nI WW, nI HH, nI (WW * HH)) ∧ m.1.2 = (nI X, nI Y, nI WW, nI HH) ∧ WW * HH ≤ c.2.2.1.1 ∧ c.2.2.1.1 ≤ 4096 ∧ c.2.1.1 = nI c.2.2.1.1 := by
  obtain ⟨⟨X, Y, WW, HH, q1, q2, q3, q4, q5, q6, e1, e2, e3, e4, e5, l1, l2, e6⟩, h2, -⟩ := h
  refine ⟨X, Y, WW, HH, q1, q2, q3, q4, q5, q6, ?_, ?_, l1, l2, e6⟩
  · rw [← e1, ← e2, ← e3, ← e4, ← e5]
  · rw [h2, e1, e2, e3, e4]
theorem rl_depth {c : cSt} {m : mSt} (h : zrel c m) (t w : Int32) : agr (f_PT_depth c t w) (f_MO_depth m t w) := by
  obtain ⟨⟨dt, dw, lg, cb⟩, ⟨rm, fx, fy, fw, fh, ct⟩, ⟨N, co, de, sn⟩, ⟨sa, sb, sd, se⟩, ⟨a0, a1, a2, a3, a4, a5, a6⟩, ⟨b0, b1, b2, b3, b4, b5, b6⟩, ⟨e0, e1, e2, e3, e4, e5, e6⟩, an⟩ := c
  obtain ⟨⟨th, x0, y0, wd, hi⟩, ⟨sc, dt', dw', eq, ea, lg', wm⟩, ⟨ch, de', sn'⟩, ⟨si, su, fa, cn⟩, ⟨an', vs, vd⟩⟩ := m
  unfold f_PT_depth f_MO_depth
  dsimp only
  by_cases z : (-1) ≤ t ∧ t ≤ 7
  · rw [if_pos z, if_pos z]
    obtain ⟨h1, h2, h3, h4, h5, h6, h7, h8, h9, h10, h11, h12⟩ := h
    exact ⟨rfl, (fun v e => by cases e), h1, h2, h3, ⟨⟨rfl, z⟩, rfl⟩, h5, h6, h7, h8, h9, h10, h11, h12⟩
  · rw [if_neg z, if_neg z]
    exact agr_no h _
theorem rl_logic {c : cSt} {m : mSt} (h : zrel c m) (n : Int32) : agr (f_PT_logic c n) (f_MO_logic m n) := by
  obtain ⟨⟨dt, dw, lg, cb⟩, ⟨rm, fx, fy, fw, fh, ct⟩, ⟨N, co, de, sn⟩, ⟨sa, sb, sd, se⟩, ⟨a0, a1, a2, a3, a4, a5, a6⟩, ⟨b0, b1, b2, b3, b4, b5, b6⟩, ⟨e0, e1, e2, e3, e4, e5, e6⟩, an⟩ := c
  obtain ⟨⟨th, x0, y0, wd, hi⟩, ⟨sc, dt', dw', eq, ea, lg', wm⟩, ⟨ch, de', sn'⟩, ⟨si, su, fa, cn⟩, ⟨an', vs, vd⟩⟩ := m
  unfold f_PT_logic f_MO_logic
  dsimp only
  by_cases z : (-1) ≤ n ∧ n ≤ 15
  · rw [if_pos z, if_pos z]
    obtain ⟨h1, h2, h3, h4, h5, h6, h7, h8, h9, h10, h11, h12⟩ := h
    exact ⟨rfl, (fun v e => by cases e), h1, h2, h3, h4, ⟨rfl, z⟩, h6, h7, h8, h9, h10, h11, h12⟩
  · rw [if_neg z, if_neg z]
    exact agr_no h _
theorem rl_mask {c : cSt} {m : mSt} (h : zrel c m) (n : Int32) : agr (f_PT_mask c n) (f_MO_mask m n) := by
  obtain ⟨⟨dt, dw, lg, cb⟩, ⟨rm, fx, fy, fw, fh, ct⟩, ⟨N, co, de, sn⟩, ⟨sa, sb, sd, se⟩, ⟨a0, a1, a2, a3, a4, a5, a6⟩, ⟨b0, b1, b2, b3, b4, b5, b6⟩, ⟨e0, e1, e2, e3, e4, e5, e6⟩, an⟩ := c
  obtain ⟨⟨th, x0, y0, wd, hi⟩, ⟨sc, dt', dw', eq, ea, lg', wm⟩, ⟨ch, de', sn'⟩, ⟨si, su, fa, cn⟩, ⟨an', vs, vd⟩⟩ := m
  unfold f_PT_mask f_MO_mask
  dsimp only
  by_cases z : 0 ≤ n ∧ n ≤ 15
  · rw [if_pos z, if_pos z]
    obtain ⟨h1, h2, h3, h4, h5, h6, h7, h8, h9, h10, h11, h12⟩ := h
    exact ⟨rfl, (fun v e => by cases e), h1, h2, h3, h4, h5, ⟨rfl, z⟩, h7, h8, h9, h10, h11, h12⟩
  · rw [if_neg z, if_neg z]
    exact agr_no h _
theorem rl_scissors {c : cSt} {m : mSt} (h : zrel c m) (x y z w : Int32) : agr (f_PT_scissors c x y z w) (f_MO_scissors m x y z w) := by
  obtain ⟨⟨dt, dw, lg, cb⟩, ⟨rm, fx, fy, fw, fh, ct⟩, ⟨N, co, de, sn⟩, ⟨sa, sb, sd, se⟩, ⟨a0, a1, a2, a3, a4, a5, a6⟩, ⟨b0, b1, b2, b3, b4, b5, b6⟩, ⟨e0, e1, e2, e3, e4, e5, e6⟩, an⟩ := c
  obtain ⟨⟨th, x0, y0, wd, hi⟩, ⟨sc, dt', dw', eq, ea, lg', wm⟩, ⟨ch, de', sn'⟩, ⟨si, su, fa, cn⟩, ⟨an', vs, vd⟩⟩ := m
  obtain ⟨h1, h2, h3, h4, h5, h6, h7, h8, h9, h10, h11, h12⟩ := h
  refine ⟨rfl, (fun v e => by cases e), h1, h2, ?_, h4, h5, h6, h7, h8, h9, h10, h11, h12⟩
  show r_sc (x, y, z, w) (if z < x then 0 else 1) _
  by_cases q : z < x
  · rw [if_pos q]; exact Or.inl ⟨rfl, q⟩
  · rw [if_neg q]; exact Or.inr ⟨rfl, q, rfl, rfl, rfl, rfl⟩
theorem rl_constant {c : cSt} {m : mSt} (h : zrel c m) (x : Int32) : agr (f_PT_constant c x) (f_MO_constant m x) := by
  obtain ⟨⟨dt, dw, lg, cb⟩, ⟨rm, fx, fy, fw, fh, ct⟩, ⟨N, co, de, sn⟩, ⟨sa, sb, sd, se⟩, ⟨a0, a1, a2, a3, a4, a5, a6⟩, ⟨b0, b1, b2, b3, b4, b5, b6⟩, ⟨e0, e1, e2, e3, e4, e5, e6⟩, an⟩ := c
  obtain ⟨⟨th, x0, y0, wd, hi⟩, ⟨sc, dt', dw', eq, ea, lg', wm⟩, ⟨ch, de', sn'⟩, ⟨si, su, fa, cn⟩, ⟨an', vs, vd⟩⟩ := m
  obtain ⟨h1, h2, h3, h4, h5, h6, h7, h8, h9, h10, h11, h12⟩ := h
  refine ⟨rfl, (fun v e => by cases e), h1, h2, h3, h4, h5, h6, h7, h8, h9, ?_, h11, h12⟩
  obtain ⟨c0, c1, c2, c3⟩ := chn_sh0 x
  intro k hk
  rcases k4 hk with rfl | rfl | rfl | rfl
  · exact c0
  · exact c1
  · exact c2
  · exact c3
theorem rl_drawn {c : cSt} {m : mSt} (h : zrel c m) (n : Int32) : agr (f_PT_drawn c n) (f_MO_drawn m n) := by
  obtain ⟨⟨dt, dw, lg, cb⟩, ⟨rm, fx, fy, fw, fh, ct⟩, ⟨N, co, de, sn⟩, ⟨sa, sb, sd, se⟩, ⟨a0, a1, a2, a3, a4, a5, a6⟩, ⟨b0, b1, b2, b3, b4, b5, b6⟩, ⟨e0, e1, e2, e3, e4, e5, e6⟩, an⟩ := c
  obtain ⟨⟨th, x0, y0, wd, hi⟩, ⟨sc, dt', dw', eq, ea, lg', wm⟩, ⟨ch, de', sn'⟩, ⟨si, su, fa, cn⟩, ⟨an', vs, vd⟩⟩ := m
  unfold f_PT_drawn f_MO_drawn
  dsimp only
  by_cases z : 0 ≤ n ∧ n ≤ 3
  · rw [if_pos z, if_pos z]
    obtain ⟨q, -, hq, rfl⟩ := w_nI (a := 0) (b := 3) (by decide) (by decide) rfl rfl z
    have e := h.2.2.2.2.2.2.2.2.2.2.1 q (by omega)
    dsimp only at e
    rw [nI_clamp (by omega), e]
    exact agr_th h _
  · rw [if_neg z, if_neg z]
    exact agr_no h _
theorem rl_blend {c : cSt} {m : mSt} (h : zrel c m) (s p u v e g : Int32) : agr (f_PT_blend c s p u v e g) (f_MO_blend m s p u v e g) := by
  obtain ⟨⟨dt, dw, lg, cb⟩, ⟨rm, fx, fy, fw, fh, ct⟩, ⟨N, co, de, sn⟩, ⟨sa, sb, sd, se⟩, ⟨a0, a1, a2, a3, a4, a5, a6⟩, ⟨b0, b1, b2, b3, b4, b5, b6⟩, ⟨e0, e1, e2, e3, e4, e5, e6⟩, an⟩ := c
  obtain ⟨⟨th, x0, y0, wd, hi⟩, ⟨sc, dt', dw', eq, ea, lg', wm⟩, ⟨ch, de', sn'⟩, ⟨si, su, fa, cn⟩, ⟨an', vs, vd⟩⟩ := m
  unfold f_PT_blend f_MO_blend
  dsimp only
  by_cases z0 : e = -1
  · rw [if_neg (Classical.not_not.mpr z0), if_pos z0]
    obtain ⟨h1, h2, h3, h4, h5, h6, h7, h8, h9, h10, h11, h12⟩ := h
    exact ⟨rfl, (fun v e => by cases e), h1, h2, h3, h4, h5, h6, h7, h8, ⟨z0, Or.inl rfl⟩, h10, h11, h12⟩
  · rw [if_pos z0, if_neg z0]
    by_cases z1 : 0 ≤ s ∧ s ≤ 14
    · by_cases z2 : 0 ≤ p ∧ p ≤ 14
      · by_cases z3 : 0 ≤ u ∧ u ≤ 14
        · by_cases z4 : 0 ≤ v ∧ v ≤ 14
          · by_cases z5 : 0 ≤ e ∧ e ≤ 4
            · by_cases z6 : 0 ≤ g ∧ g ≤ 4
              · simp only [if_neg (Classical.not_not.mpr z1), if_neg (Classical.not_not.mpr z2), if_neg (Classical.not_not.mpr z3), if_neg (Classical.not_not.mpr z4), if_pos z4, if_neg (Classical.not_not.mpr z5), if_neg (Classical.not_not.mpr z6), if_pos z6]
                obtain ⟨h1, h2, h3, h4, h5, h6, h7, h8, h9, h10, h11, h12⟩ := h
                exact ⟨rfl, (fun v e => by cases e), h1, h2, h3, h4, h5, h6, h7, h8, ⟨rfl, Or.inr ⟨z5, ⟨rfl, z6⟩, ⟨rfl, z1⟩, ⟨rfl, z2⟩, ⟨rfl, z3⟩, ⟨rfl, z4⟩⟩⟩, h10, h11, h12⟩
              · simp only [if_neg (Classical.not_not.mpr z1), if_neg (Classical.not_not.mpr z2), if_neg (Classical.not_not.mpr z3), if_neg (Classical.not_not.mpr z4), if_pos z4, if_neg (Classical.not_not.mpr z5), if_pos z6, if_neg z6]
                exact agr_no h _
            · simp only [if_neg (Classical.not_not.mpr z1), if_neg (Classical.not_not.mpr z2), if_neg (Classical.not_not.mpr z3), if_neg (Classical.not_not.mpr z4), if_pos z4, if_pos z5]
              exact agr_no h _
          · simp only [if_neg (Classical.not_not.mpr z1), if_neg (Classical.not_not.mpr z2), if_neg (Classical.not_not.mpr z3), if_pos z4, if_neg z4]
            exact agr_no h _
        · simp only [if_neg (Classical.not_not.mpr z1), if_neg (Classical.not_not.mpr z2), if_pos z3]
          exact agr_no h _
      · simp only [if_neg (Classical.not_not.mpr z1), if_pos z2]
        exact agr_no h _
    · simp only [if_pos z1]
      exact agr_no h _
theorem rl_stencil {c : cSt} {m : mSt} (h : zrel c m) (s t v q w f g k : Int32) : agr (f_PT_stencil c s t v q w f g k) (f_MO_stencil m s t v q w f g k) := by
  obtain ⟨⟨dt, dw, lg, cb⟩, ⟨rm, fx, fy, fw, fh, ct⟩, ⟨N, co, de, sn⟩, ⟨sa, sb, sd, se⟩, ⟨a0, a1, a2, a3, a4, a5, a6⟩, ⟨b0, b1, b2, b3, b4, b5, b6⟩, ⟨e0, e1, e2, e3, e4, e5, e6⟩, an⟩ := c
  obtain ⟨⟨th, x0, y0, wd, hi⟩, ⟨sc, dt', dw', eq, ea, lg', wm⟩, ⟨ch, de', sn'⟩, ⟨si, su, fa, cn⟩, ⟨an', vs, vd⟩⟩ := m
  unfold f_PT_stencil f_MO_stencil
  dsimp only
  by_cases z0 : 0 ≤ s ∧ s ≤ 1
  · rw [if_pos z0, if_neg (Classical.not_not.mpr z0)]
    by_cases zt : t = -1
    · rw [if_pos zt]
      by_cases zs : s = 0
      · rw [if_pos zs, if_neg (Classical.not_not.mpr zt), if_pos zs]
        obtain ⟨h1, h2, h3, h4, h5, h6, h7, h8, h9, h10, h11, h12⟩ := h
        exact ⟨rfl, (fun v e => by cases e), h1, h2, h3, h4, h5, h6, ⟨zt, Or.inl rfl⟩, r_st_c h8 (j7 rfl rfl rfl rfl rfl rfl rfl), h9, h10, h11, h12⟩
      · rw [if_neg zs, if_neg (Classical.not_not.mpr zt), if_neg zs]
        obtain ⟨h1, h2, h3, h4, h5, h6, h7, h8, h9, h10, h11, h12⟩ := h
        exact ⟨rfl, (fun v e => by cases e), h1, h2, h3, h4, h5, h6, r_st_c h7 (j7 rfl rfl rfl rfl rfl rfl rfl), ⟨zt, Or.inl rfl⟩, h9, h10, h11, h12⟩
    · rw [if_neg zt, if_pos zt, if_pos zt]
      by_cases z1 : 0 ≤ t ∧ t ≤ 7
      rotate_left
      · simp only [z1, and_self, not_true_eq_false, not_false_eq_true, if_true, if_false, ite_self]
        exact agr_no h _
      by_cases z2 : 0 ≤ v ∧ v ≤ 255
      rotate_left
      · simp only [z1, z2, and_self, not_true_eq_false, not_false_eq_true, if_true, if_false, ite_self]
        exact agr_no h _
      by_cases z3 : 0 ≤ q ∧ q ≤ 255
      rotate_left
      · simp only [z1, z2, z3, and_self, not_true_eq_false, not_false_eq_true, if_true, if_false, ite_self]
        exact agr_no h _
      by_cases z4 : 0 ≤ w ∧ w ≤ 255
      rotate_left
      · simp only [z1, z2, z3, z4, and_self, not_true_eq_false, not_false_eq_true, if_true, if_false, ite_self]
        exact agr_no h _
      by_cases z5 : 0 ≤ f ∧ f ≤ 7
      rotate_left
      · simp only [z1, z2, z3, z4, z5, and_self, not_true_eq_false, not_false_eq_true, if_true, if_false, ite_self]
        exact agr_no h _
      by_cases z6 : 0 ≤ g ∧ g ≤ 7
      rotate_left
      · simp only [z1, z2, z3, z4, z5, z6, and_self, not_true_eq_false, not_false_eq_true, if_true, if_false, ite_self]
        exact agr_no h _
      by_cases z7 : 0 ≤ k ∧ k ≤ 7
      rotate_left
      · simp only [z1, z2, z3, z4, z5, z6, z7, and_self, not_true_eq_false, not_false_eq_true, if_true, if_false, ite_self]
        exact agr_no h _
      simp only [z1, z2, z3, z4, z5, z6, z7, and_self, not_true_eq_false, if_true, if_false]
      by_cases zs : s = 0
      · rw [if_pos zs, if_pos zs]
        obtain ⟨h1, h2, h3, h4, h5, h6, h7, h8, h9, h10, h11, h12⟩ := h
        exact ⟨rfl, (fun v e => by cases e), h1, h2, h3, h4, h5, h6, ⟨rfl, Or.inr ⟨z1, ⟨rfl, isB_le z2⟩, rfl, rfl, ⟨rfl, z5⟩, ⟨rfl, z6⟩, ⟨rfl, z7⟩⟩⟩, r_st_c h8 (j7 rfl rfl rfl rfl rfl rfl rfl), h9, h10, h11, h12⟩
      · rw [if_neg zs, if_neg zs]
        obtain ⟨h1, h2, h3, h4, h5, h6, h7, h8, h9, h10, h11, h12⟩ := h
        exact ⟨rfl, (fun v e => by cases e), h1, h2, h3, h4, h5, h6, r_st_c h7 (j7 rfl rfl rfl rfl rfl rfl rfl), ⟨rfl, Or.inr ⟨z1, ⟨rfl, isB_le z2⟩, rfl, rfl, ⟨rfl, z5⟩, ⟨rfl, z6⟩, ⟨rfl, z7⟩⟩⟩, h9, h10, h11, h12⟩
  · rw [if_neg z0, if_pos z0]
    exact agr_no h _

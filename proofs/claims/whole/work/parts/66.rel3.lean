def c_fr (c : cSt) (x y w v : Int32) : cSt := (c.1, (c.2.1.1, x, y, w, v, w * v), (c.2.2.1.1, zf c.2.2.1.2.1 (w * v).toNatClampNeg, zf c.2.2.1.2.2.1 (w * v).toNatClampNeg, zf c.2.2.1.2.2.2 (w * v).toNatClampNeg), c.2.2.2)
def c_fg (c : cSt) (x y w v : Int32) : cSt := (c.1, (4096, x, y, w, v, w * v), (4096, zf (fun _ => 0) (w * v).toNatClampNeg, zf (fun _ => 0) (w * v).toNatClampNeg, zf (fun _ => 0) (w * v).toNatClampNeg), c.2.2.2)
theorem chn_z : ∀ k, k < 4 → (0 : Int32) = chn 0 k := by decide +kernel
theorem r_pl_z {co de sn ch de' sn' : Nat → Int32} {n : Nat} (hn : n ≤ 4096) : r_pl (zf co n) (zf de n) (zf sn n) (zf ch 16384, zf de' 4096, zf sn' 4096) n := by
  intro p hp
  have e : ∀ g : Nat → Int32, zf g n p = 0 := fun g => if_pos hp
  have e2 : ∀ g : Nat → Int32, zf g 4096 p = 0 := fun g => if_pos (by omega)
  refine ⟨fun k hk => ?_, ?_, ?_, ?_⟩
  · show zf ch 16384 (4 * p + k) = chn (zf co n p) k
    rw [e co, show zf ch 16384 (4 * p + k) = 0 from if_pos (by omega)]
    exact chn_z k hk
  · show zf de' 4096 p = zf de n p
    rw [e, e2]
  · show zf sn' 4096 p = zf sn n p
    rw [e, e2]
  · rw [e]; exact isB_0
theorem rl_frame {c : cSt} {m : mSt} (h : zrel c m) (x y w v : Int32) : (¬ ((1 ≤ w ∧ w ≤ 64) ∧ (1 ≤ v ∧ v ≤ 64) ∧ (0 ≤ x ∧ x ≤ 1023) ∧ (0 ≤ y ∧ y ≤ 1023)) → agr (.inr 6, c) (f_MO_frame m x y w v)) ∧ (((1 ≤ w ∧ w ≤ 64) ∧ (1 ≤ v ∧ v ≤ 64) ∧ (0 ≤ x ∧ x ≤ 1023) ∧ (0 ≤ y ∧ y ≤ 1023)) → (w * v ≤ c.2.1.1 → agr (.inl none, c_fr c x y w v) (f_MO_frame m x y w v)) ∧ (¬ w * v ≤ c.2.1.1 → agr (.inl none, c_fg c x y w v) (f_MO_frame m x y w v))) := by
  obtain ⟨⟨th, x0, y0, wd, hi⟩, ⟨sc, dt', dw', eq, ea, lg', wm⟩, ⟨ch, de', sn'⟩, ⟨si, su, fa, cn⟩, ⟨an', vs, vd⟩⟩ := m
  unfold f_MO_frame
  dsimp only
  constructor
  · intro z
    by_cases z1 : 1 ≤ w ∧ w ≤ 64
    · rw [if_neg (Classical.not_not.mpr z1)]
      by_cases z2 : 1 ≤ v ∧ v ≤ 64
      · rw [if_neg (Classical.not_not.mpr z2)]
        by_cases z3 : 0 ≤ x ∧ x ≤ 1023
        · rw [if_neg (Classical.not_not.mpr z3), if_neg (fun z4 => z ⟨z1, z2, z3, z4⟩)]
          exact agr_no h _
        · rw [if_pos z3]; exact agr_no h _
      · rw [if_pos z2]; exact agr_no h _
    · rw [if_pos z1]; exact agr_no h _
  · rintro ⟨z1, z2, z3, z4⟩
    rw [if_neg (Classical.not_not.mpr z1), if_neg (Classical.not_not.mpr z2), if_neg (Classical.not_not.mpr z3), if_pos z4]
    obtain ⟨X, Y, WW, HH, q1, q2, q3, q4, q5, q6, e1, e2, l1, l2, e3⟩ := rel_fr h
    obtain ⟨A, hA1, hA, rfl⟩ := w_nI (a := 1) (b := 64) (by decide) (by decide) rfl rfl z1
    obtain ⟨B, hB1, hB, rfl⟩ := w_nI (a := 1) (b := 64) (by decide) (by decide) rfl rfl z2
    obtain ⟨U, -, hU, rfl⟩ := w_nI (a := 0) (b := 1023) (by decide) (by decide) rfl rfl z3
    obtain ⟨V, -, hV, rfl⟩ := w_nI (a := 0) (b := 1023) (by decide) (by decide) rfl rfl z4
    obtain ⟨h1, h2, h3, h4, h5, h6, h7, h8, h9, h10, h11, h12⟩ := h
    have hAB : A * B ≤ 64 * 64 := Nat.mul_le_mul hA hB
    have ec : (nI A * nI B).toNatClampNeg = A * B := by rw [pk_mul]; exact nI_clamp (by omega)
    constructor
    · intro zr
      refine ⟨rfl, (fun v e => by cases e), ⟨U, V, A, B, hU, hV, hA1, hA, hB1, hB, rfl, rfl, rfl, rfl, pk_mul A B, ?_, l2, e3⟩, rfl, h3, h4, h5, h6, h7, h8, h9, h10, h11, ?_⟩
      · show A * B ≤ c.2.2.1.1
        rw [e3, pk_mul, Int32.le_iff_toInt_le, nI_toInt (by omega), nI_toInt (by omega)] at zr
        omega
      · show r_pl _ _ _ _ (nI A * nI B).toNatClampNeg
        rw [ec]
        show r_pl (zf _ (nI A * nI B).toNatClampNeg) (zf _ (nI A * nI B).toNatClampNeg) (zf _ (nI A * nI B).toNatClampNeg) _ _
        rw [ec]
        exact r_pl_z (by omega)
    · intro zr
      refine ⟨rfl, (fun v e => by cases e), ⟨U, V, A, B, hU, hV, hA1, hA, hB1, hB, rfl, rfl, rfl, rfl, pk_mul A B, by show A * B ≤ 4096; omega, Nat.le_refl _, rfl⟩, rfl, h3, h4, h5, h6, h7, h8, h9, h10, h11, ?_⟩
      show r_pl _ _ _ _ (nI A * nI B).toNatClampNeg
      rw [ec]
      show r_pl (zf _ (nI A * nI B).toNatClampNeg) (zf _ (nI A * nI B).toNatClampNeg) (zf _ (nI A * nI B).toNatClampNeg) _ _
      rw [ec]
      exact r_pl_z (by omega)
/-- a place of the frame, by its number -/
theorem rel_at {c : cSt} {m : mSt} (h : zrel c m) {x y : Int32} (hh : ¬ f_has c.2.1.2.1 c.2.1.2.2.1 c.2.1.2.2.2.1 c.2.1.2.2.2.2.1 x y = 0) : ∃ q : Nat, q < c.2.1.2.2.2.2.2.toNatClampNeg ∧ q < 4096 ∧ f_idx c.2.1.2.1 c.2.1.2.2.1 c.2.1.2.2.2.1 x y = nI q ∧ (y - m.1.2.2.1) * m.1.2.2.2.1 + x - m.1.2.1 = nI q ∧ vp_in (nI q) c.2.2.1.1 := by
  obtain ⟨X, Y, WW, HH, q1, q2, q3, q4, q5, q6, e1, e2, l1, l2, e3⟩ := rel_fr h
  have f1 : c.2.1.2.1 = nI X := by rw [e1]
  have f2 : c.2.1.2.2.1 = nI Y := by rw [e1]
  have f3 : c.2.1.2.2.2.1 = nI WW := by rw [e1]
  have f4 : c.2.1.2.2.2.2.1 = nI HH := by rw [e1]
  have f5 : c.2.1.2.2.2.2.2 = nI (WW * HH) := by rw [e1]
  have g1 : m.1.2.1 = nI X := by rw [e2]
  have g2 : m.1.2.2.1 = nI Y := by rw [e2]
  have g3 : m.1.2.2.2.1 = nI WW := by rw [e2]
  rw [f1, f2, f3, f4] at hh
  obtain ⟨i, j, hi, hj, rfl, rfl⟩ := has_nI q1 q2 q4 q6 hh
  have hij := ix_lt hi hj
  have hW2 : WW * HH ≤ 64 * 64 := Nat.mul_le_mul q4 q6
  refine ⟨j * WW + i, ?_, by omega, ?_, ?_, pk_in (j * WW + i) _ (by omega)⟩
  · rw [f5, nI_clamp (by omega)]; exact hij
  · rw [f1, f2, f3]; exact f_idx_nI q1 q2 q4 q6 hi hj
  · rw [g1, g2, g3]; exact g_pl_nI q1 q2 q4 q6 hi hj
theorem rel_m {c : cSt} {m : mSt} (h : zrel c m) (x y : Int32) : f_has m.1.2.1 m.1.2.2.1 m.1.2.2.2.1 m.1.2.2.2.2 x y = f_has c.2.1.2.1 c.2.1.2.2.1 c.2.1.2.2.2.1 c.2.1.2.2.2.2.1 x y := by
  have e := h.2.1
  rw [e]
theorem show_eq {co de sn : Nat → Int32} {t : m3} {p : Nat} (h : r_p1 co de sn t p) {w : Int32} (hw : 0 ≤ w ∧ w ≤ 2) : f_show t.1 t.2.1 t.2.2 p w = if w = 0 then co p else if w = 1 then de p else sn p := by
  obtain ⟨h1, h2, h3, -⟩ := h
  unfold f_show
  have e0 := h1 0 (by decide)
  rw [Nat.add_zero] at e0
  rw [e0, h1 1 (by decide), h1 2 (by decide), h1 3 (by decide), pack_chn, h2, h3]
  by_cases z : w = 0
  · rw [if_pos z, if_pos (by rw [z]; decide)]
  · rw [if_neg z, if_neg (fun y => z (Int32.le_antisymm y hw.1))]
theorem rl_at {c : cSt} {m : mSt} (h : zrel c m) (x y w : Int32) : cIn c x y ∧ p_MO_at m x y w ∧ agr (f_PT_at c x y w) (f_MO_at m x y w) := by
  have ra := fun hh => rel_at h (x := x) (y := y) hh
  have rm := rel_m h x y
  obtain ⟨⟨dt, dw, lg, cb⟩, ⟨rm, fx, fy, fw, fh, ct⟩, ⟨N, co, de, sn⟩, ⟨sa, sb, sd, se⟩, ⟨a0, a1, a2, a3, a4, a5, a6⟩, ⟨b0, b1, b2, b3, b4, b5, b6⟩, ⟨e0, e1, e2, e3, e4, e5, e6⟩, an⟩ := c
  obtain ⟨⟨th, x0, y0, wd, hi⟩, ⟨sc, dt', dw', eq, ea, lg', wm⟩, ⟨ch, de', sn'⟩, ⟨si, su, fa, cn⟩, ⟨an', vs, vd⟩⟩ := m
  dsimp only at ra rm
  refine ⟨?_, ?_, ?_⟩
  · intro hh
    obtain ⟨q, h1, h2, h3, h4, h5⟩ := ra hh
    rw [h3]; exact h5
  · intro hh
    rw [rm] at hh
    obtain ⟨q, h1, h2, h3, h4, h5⟩ := ra hh
    exact ⟨q, h2, h4⟩
  · unfold f_PT_at f_MO_at
    dsimp only
    by_cases z : 0 ≤ w ∧ w ≤ 2
    · rw [if_pos z, if_pos z, rm]
      by_cases hh : f_has fx fy fw fh x y = 0
      · rw [if_neg (Classical.not_not.mpr hh), if_neg (Classical.not_not.mpr hh)]
        exact agr_7 h _
      · rw [if_pos hh, if_pos hh]
        obtain ⟨q, h1, h2, h3, h4, h5⟩ := ra hh
        rw [h3, h4, nI_clamp (by omega)]
        have e : f_show ch de' sn' q w = if w = 0 then co q else if w = 1 then de q else sn q := show_eq (h.2.2.2.2.2.2.2.2.2.2.2 q h1) z
        rw [e]
        by_cases w0 : w = 0
        · rw [if_pos w0, if_pos w0]; exact agr_th h _
        · rw [if_neg w0, if_neg w0]
          by_cases w1 : w = 1
          · rw [if_pos w1, if_pos w1]; exact agr_th h _
          · rw [if_neg w1, if_neg w1]; exact agr_th h _
    · rw [if_neg z, if_neg z]
      exact agr_no h _
theorem rl_sum {c : cSt} {m : mSt} (h : zrel c m) (w : Int32) : cCt c ∧ p_MO_sum m w ∧ agr (f_PT_sum c w) (f_MO_sum m w) := by
  obtain ⟨X, Y, WW, HH, q1, q2, q3, q4, q5, q6, g1, g2, l1, l2, g3⟩ := rel_fr h
  have hW2 : WW * HH ≤ 64 * 64 := Nat.mul_le_mul q4 q6
  obtain ⟨⟨dt, dw, lg, cb⟩, ⟨rm, fx, fy, fw, fh, ct⟩, ⟨N, co, de, sn⟩, ⟨sa, sb, sd, se⟩, ⟨a0, a1, a2, a3, a4, a5, a6⟩, ⟨b0, b1, b2, b3, b4, b5, b6⟩, ⟨e0, e1, e2, e3, e4, e5, e6⟩, an⟩ := c
  obtain ⟨⟨th, x0, y0, wd, hi⟩, ⟨sc, dt', dw', eq, ea, lg', wm⟩, ⟨ch, de', sn'⟩, ⟨si, su, fa, cn⟩, ⟨an', vs, vd⟩⟩ := m
  dsimp only at g1 g2 l1 l2 g3
  obtain ⟨rfl, rfl, rfl, rfl, rfl⟩ : fx = nI X ∧ fy = nI Y ∧ fw = nI WW ∧ fh = nI HH ∧ ct = nI (WW * HH) := by simpa only [Prod.mk.injEq] using g1
  obtain ⟨rfl, rfl, rfl, rfl⟩ : x0 = nI X ∧ y0 = nI Y ∧ wd = nI WW ∧ hi = nI HH := by simpa only [Prod.mk.injEq] using g2
  refine ⟨⟨WW * HH, l1, l2, rfl⟩, ⟨WW * HH, by omega, pk_mul WW HH⟩, ?_⟩
  unfold f_PT_sum f_MO_sum
  dsimp only
  by_cases z : 0 ≤ w ∧ w ≤ 2
  · rw [if_pos z, if_pos z, pk_mul, nI_clamp (by omega)]
    have hp := h.2.2.2.2.2.2.2.2.2.2.2
    dsimp only at hp
    rw [nI_clamp (by omega)] at hp
    have e : ∀ i, i < WW * HH → f_show ch de' sn' i w = if w = 0 then co i else if w = 1 then de i else sn i := fun i hi => show_eq (hp i hi) z
    rw [sumF_c (WW * HH) e]
    by_cases w0 : w = 0
    · simp only [if_pos w0]; exact agr_th h _
    · simp only [if_neg w0]
      by_cases w1 : w = 1
      · simp only [if_pos w1]; exact agr_th h _
      · simp only [if_neg w1]; exact agr_th h _
  · rw [if_neg z, if_neg z]
    exact agr_no h _

theorem ch_gen {F : Nat → Nat → (Nat → Int32) → Nat → Int32} {V : Nat → Int32 → Int32} {B : Nat} (h0 : ∀ k ch, F 0 k ch = ch) (h1 : ∀ n k ch, F (n + 1) k ch = F n (k + 1) (upd ch (B + k) (V k (ch (B + k))))) :
    ∀ n k ch j, F n k ch j = if B + k ≤ j ∧ j < B + k + n then V (j - B) (ch j) else ch j := by
  intro n
  induction n with
  | zero => intro k ch j; rw [h0, if_neg (by omega)]
  | succ n ih =>
    intro k ch j
    rw [h1, ih]
    by_cases e : j = B + k
    · subst e
      rw [if_neg (by omega), if_pos (by omega), pk_us, show B + k - B = k by omega]
    · rw [pk_un e]
      by_cases z : B + (k + 1) ≤ j ∧ j < B + (k + 1) + n
      · rw [if_pos z, if_pos (by omega)]
      · rw [if_neg z, if_neg (by omega)]
theorem f_cl_eq (c : cSt) (i : Nat) (w col dp s : Int32) : f_cl c i w col dp s = (c.1, c.2.1, (c.2.2.1.1, (if w &&& 1 = 0 then c.2.2.1.2.1 else upd c.2.2.1.2.1 i (f_mrg (c.2.2.1.2.1 i) col c.1.2.2.2)), (if w &&& 2 = 0 then c.2.2.1.2.2.1 else if c.1.1 = -1 then upd c.2.2.1.2.2.1 i dp else if c.1.2.1 = 0 then c.2.2.1.2.2.1 else upd c.2.2.1.2.2.1 i dp), (if w &&& 4 = 0 then c.2.2.1.2.2.2 else upd c.2.2.1.2.2.2 i (f_mrg (c.2.2.1.2.2.2 i) s (if ¬ c.2.2.2.2.1.1 = -1 then c.2.2.2.2.1.2.2.2.1 else 255)))), c.2.2.2) := by
  unfold f_cl f_cl1 f_cl2 f_cl3
  by_cases z1 : w &&& 1 = 0 <;> by_cases z2 : w &&& 2 = 0 <;> by_cases y1 : c.1.1 = -1 <;> by_cases y2 : c.1.2.1 = 0 <;> by_cases z3 : w &&& 4 = 0 <;> by_cases z4 : c.2.2.2.2.1.1 = -1 <;> simp only [c_co, c_de, c_sn, z1, z2, y1, y2, z3, z4, eq_self_iff_true, if_true, if_false, not_true_eq_false, not_false_eq_true]
theorem w_124 {w : Int32} (hw : 0 ≤ w ∧ w ≤ 7) : ((w &&& 1 = 1) ↔ ¬ (w &&& 1 = 0)) ∧ ((w &&& 2 = 2) ↔ ¬ (w &&& 2 = 0)) ∧ ((w &&& 4 = 4) ↔ ¬ (w &&& 4 = 0)) := by
  obtain ⟨n, -, hn, rfl⟩ := w_nI (a := 0) (b := 7) (by decide) (by decide) rfl rfl hw
  exact (by decide +kernel : ∀ n, n < 8 → (((nI n &&& 1 = 1) ↔ ¬ (nI n &&& 1 = 0)) ∧ ((nI n &&& 2 = 2) ↔ ¬ (nI n &&& 2 = 0)) ∧ ((nI n &&& 4 = 4) ↔ ¬ (nI n &&& 4 = 0)))) n (by omega)
theorem upd_w {f g : Nat → Int32} {p : Nat} {x y : Int32} (hp : x = y) (h : ∀ q, q ≠ p → f q = g q) : ∀ q, upd f p x q = upd g p y q := by
  intro q
  by_cases e : q = p
  · subst e; rw [pk_us, pk_us, hp]
  · rw [pk_un e, pk_un e, h q e]
theorem pl_step {c : cSt} {m : mSt} {t : m3} {n p : Nat} {w col dp s : Int32} (hp : p < n) (hw : 0 ≤ w ∧ w ≤ 7) (hs : isB s)
    (h4 : (m.2.1.2.1 = c.1.1 ∧ r_lg c.1.1 (-1) 7) ∧ m.2.1.2.2.1 = c.1.2.1) (h6 : c.1.2.2.2 = f_bits m.2.1.2.2.2.2.2.2 ∧ r_lg m.2.1.2.2.2.2.2.2 0 15) (h7 : r_st c.2.2.2.2.1 m.2.2.2.1.2.1 0)
    (h : r_pl c.2.2.1.2.1 c.2.2.1.2.2.1 c.2.2.1.2.2.2 t n) :
    r_pl (f_cl c p w col dp s).2.2.1.2.1 (f_cl c p w col dp s).2.2.1.2.2.1 (f_cl c p w col dp s).2.2.1.2.2.2 (q_pl m.2.1.2.2.2.2.2.2 m.2.1.2.1 m.2.1.2.2.1 m.2.2.2.1.2.1 w col dp s p t) n := by
  obtain ⟨w1, w2, w4⟩ := w_124 hw
  obtain ⟨⟨d1, -⟩, d2⟩ := h4
  obtain ⟨k1, k2⟩ := h6
  intro q hq
  obtain ⟨c1, c2, c3, c4⟩ := h q hq
  rw [f_cl_eq, d1, d2]
  have ech := ch_gen (F := q_ch m.2.1.2.2.2.2.2.2 w col p) (V := fun k old => if w &&& 1 = 1 ∧ (m.2.1.2.2.2.2.2.2 >>> (nI k &&& 31)) &&& 1 = 1 then (col >>> ((8 * nI k) &&& 31)) &&& 255 else old) (B := 4 * p) (fun _ _ => rfl) (fun _ _ _ => rfl)
  refine ⟨fun k hk => ?_, ?_, ?_⟩
  · show q_ch m.2.1.2.2.2.2.2.2 w col p 4 0 t.1 (4 * q + k) = chn ((if w &&& 1 = 0 then c.2.2.1.2.1 else upd c.2.2.1.2.1 p (f_mrg (c.2.2.1.2.1 p) col c.1.2.2.2)) q) k
    rw [ech]
    by_cases e : q = p
    · subst e
      rw [if_pos (by omega), show 4 * q + k - 4 * q = k by omega, c1 k hk, chn_shr col hk]
      by_cases z : w &&& 1 = 0
      · rw [if_pos z, if_neg (fun y => w1.mp y.1 z)]
      · rw [if_neg z, pk_us, k1, chn_mrg k2 hk]
        by_cases y : (m.2.1.2.2.2.2.2.2 >>> (nI k &&& 31)) &&& 1 = 1
        · rw [if_pos ⟨w1.mpr z, y⟩, if_pos y]
        · rw [if_neg (fun z => y z.2), if_neg y]
    · rw [if_neg (by omega), c1 k hk]
      by_cases z : w &&& 1 = 0
      · rw [if_pos z]
      · rw [if_neg z, pk_un e]
  · show q_de c.1.1 c.1.2.1 w dp p t.2.1 q = (if w &&& 2 = 0 then c.2.2.1.2.2.1 else if c.1.1 = -1 then upd c.2.2.1.2.2.1 p dp else if c.1.2.1 = 0 then c.2.2.1.2.2.1 else upd c.2.2.1.2.2.1 p dp) q
    unfold q_de
    by_cases e : q = p
    · subst e
      rw [pk_us, c2]
      by_cases z : w &&& 2 = 0
      · rw [if_pos z, if_neg (fun y => w2.mp y.1 z)]
      · rw [if_neg z]
        by_cases y1 : c.1.1 = -1
        · rw [if_pos y1, pk_us, if_pos ⟨w2.mpr z, Or.inl y1⟩]
        · rw [if_neg y1]
          by_cases y2 : c.1.2.1 = 0
          · rw [if_pos y2, if_neg (fun y => y.2.elim y1 (fun x => x y2))]
          · rw [if_neg y2, pk_us, if_pos ⟨w2.mpr z, Or.inr y2⟩]
    · rw [pk_un e, c2]
      split
      · rfl
      · split
        · rw [pk_un e]
        · split
          · rfl
          · rw [pk_un e]
  · show q_sn m.2.2.2.1.2.1 w s p t.2.2 q = (if w &&& 4 = 0 then c.2.2.1.2.2.2 else upd c.2.2.1.2.2.2 p (f_mrg (c.2.2.1.2.2.2 p) s (if ¬ c.2.2.2.2.1.1 = -1 then c.2.2.2.2.1.2.2.2.1 else 255))) q ∧ isB ((if w &&& 4 = 0 then c.2.2.1.2.2.2 else upd c.2.2.1.2.2.2 p (f_mrg (c.2.2.1.2.2.2 p) s (if ¬ c.2.2.2.2.1.1 = -1 then c.2.2.2.2.1.2.2.2.1 else 255))) q)
    unfold q_sn
    obtain ⟨u0, u1⟩ := h7
    have eu : (if m.2.2.2.1.2.1 0 = -1 then (255 : Int32) else m.2.2.2.1.2.1 3) = (if ¬ c.2.2.2.2.1.1 = -1 then c.2.2.2.2.1.2.2.2.1 else 255) := by
      rw [u0]
      rcases u1 with u | ⟨u, -, -, u3, -⟩
      · rw [if_pos u, if_neg (Classical.not_not.mpr u)]
      · rw [if_neg (nn_m1 u).2, if_pos (nn_m1 u).2]
        exact u3
    rw [eu]
    by_cases z : w &&& 4 = 0
    · rw [if_pos z, if_neg (fun y => w4.mp y z)]
      exact ⟨c3, c4⟩
    · rw [if_neg z, if_pos (w4.mpr z)]
      by_cases e : q = p
      · subst e
        rw [pk_us, pk_us, c3]
        exact ⟨rfl, isB_mrg c4 hs⟩
      · rw [pk_un e, pk_un e]
        exact ⟨c3, c4⟩
theorem has_in {X Y WW HH i j : Nat} (hX : X ≤ 1023) (hY : Y ≤ 1023) (hW : WW ≤ 64) (hH : HH ≤ 64) (hi : i < WW) (hj : j < HH) : ¬ f_has (nI X) (nI Y) (nI WW) (nI HH) (nI (X + i)) (nI (Y + j)) = 0 := by
  unfold f_has
  rw [nI_add, nI_add, if_neg (nI_nlt (by omega) (by omega)), if_neg (nI_ge (by omega) (by omega)), if_neg (nI_nlt (by omega) (by omega)), if_neg (nI_ge (by omega) (by omega))]
  decide
def cmR (c : cSt) (n : Nat) (z : cSt × Int32) (t : m3 × Int32) : Prop := z.2 = t.2 ∧ c_fix c z.1 ∧ r_pl z.1.2.2.1.2.1 z.1.2.2.1.2.2.1 z.1.2.2.1.2.2.2 t.1 n
theorem cm_stp {c : cSt} {m : mSt} {X Y WW HH : Nat} {w col dp s : Int32} (hX : X ≤ 1023) (hY : Y ≤ 1023) (hW : WW ≤ 64) (hH : HH ≤ 64) (hw : 0 ≤ w ∧ w ≤ 7) (hs : isB s) (em : m.1.2 = (nI X, nI Y, nI WW, nI HH))   (h3 : r_sc c.2.2.2.1 m.2.1.1 m.2.2.2.1.1) (h4 : (m.2.1.2.1 = c.1.1 ∧ r_lg c.1.1 (-1) 7) ∧ m.2.1.2.2.1 = c.1.2.1) (h6 : c.1.2.2.2 = f_bits m.2.1.2.2.2.2.2.2 ∧ r_lg m.2.1.2.2.2.2.2.2 0 15) (h7 : r_st c.2.2.2.2.1 m.2.2.2.1.2.1 0) {i j : Nat} (hi : i < WW) (hj : j < HH) {z : cSt × Int32} {t : m3 × Int32} (h : cmR c (WW * HH) z t) : cmR c (WW * HH) (f_stp X Y WW w col dp s j i z) (q_stp m X Y WW w col dp s j i t) := by
  obtain ⟨hz, hf, hp⟩ := h
  have g1 : m.1.2.1 = nI X := by rw [em]
  have g2 : m.1.2.2.1 = nI Y := by rw [em]
  have g3 : m.1.2.2.2.1 = nI WW := by rw [em]
  have g4 : m.1.2.2.2.2 = nI HH := by rw [em]
  have hh := has_in hX hY hW hH hi hj
  unfold f_stp q_stp
  rw [g1, g2, g3, g4, hf.2.2.2]
  have ho := hold_eq (x := nI (X + i)) (y := nI (Y + j)) h3 hh
  by_cases y : f_hold c.2.2.2.1.1 c.2.2.2.1.2.1 c.2.2.2.1.2.2.1 c.2.2.2.1.2.2.2 (nI (X + i)) (nI (Y + j)) = 0
  · rw [if_pos y, if_pos (ho.mp y)]
    exact ⟨hz, hf, hp⟩
  · rw [if_neg y, if_neg (fun x => y (ho.mpr x))]
    refine ⟨by show z.2 + 1 = t.2 + 1; rw [hz], c_fix_t hf c_fix_cl, ?_⟩
    exact pl_step (ix_lt hi hj) hw hs (by rw [hf.1]; exact h4) (by rw [hf.1]; exact h6) (by rw [hf.2.2.2]; exact h7) hp
theorem cm_row {c : cSt} {m : mSt} {X Y WW HH : Nat} {w col dp s : Int32} (hX : X ≤ 1023) (hY : Y ≤ 1023) (hW : WW ≤ 64) (hH : HH ≤ 64) (hw : 0 ≤ w ∧ w ≤ 7) (hs : isB s) (em : m.1.2 = (nI X, nI Y, nI WW, nI HH))   (h3 : r_sc c.2.2.2.1 m.2.1.1 m.2.2.2.1.1) (h4 : (m.2.1.2.1 = c.1.1 ∧ r_lg c.1.1 (-1) 7) ∧ m.2.1.2.2.1 = c.1.2.1) (h6 : c.1.2.2.2 = f_bits m.2.1.2.2.2.2.2.2 ∧ r_lg m.2.1.2.2.2.2.2.2 0 15) (h7 : r_st c.2.2.2.2.1 m.2.2.2.1.2.1 0) {j : Nat} (hj : j < HH) : ∀ (n i : Nat) (z : cSt × Int32) (t : m3 × Int32), n + i = WW → cmR c (WW * HH) z t → cmR c (WW * HH) (f_row X Y WW w col dp s j n i z) (q_row m X Y WW w col dp s j n i t) := by
  intro n
  induction n with
  | zero => intro i z t _ h; exact h
  | succ n ih =>
    intro i z t hn h
    exact ih (i + 1) _ _ (by omega) (cm_stp hX hY hW hH hw hs em h3 h4 h6 h7 (by omega) hj h)
theorem cm_rws {c : cSt} {m : mSt} {X Y WW HH : Nat} {w col dp s : Int32} (hX : X ≤ 1023) (hY : Y ≤ 1023) (hW : WW ≤ 64) (hH : HH ≤ 64) (hw : 0 ≤ w ∧ w ≤ 7) (hs : isB s) (em : m.1.2 = (nI X, nI Y, nI WW, nI HH))   (h3 : r_sc c.2.2.2.1 m.2.1.1 m.2.2.2.1.1) (h4 : (m.2.1.2.1 = c.1.1 ∧ r_lg c.1.1 (-1) 7) ∧ m.2.1.2.2.1 = c.1.2.1) (h6 : c.1.2.2.2 = f_bits m.2.1.2.2.2.2.2.2 ∧ r_lg m.2.1.2.2.2.2.2.2 0 15) (h7 : r_st c.2.2.2.2.1 m.2.2.2.1.2.1 0) : ∀ (n j : Nat) (z : cSt × Int32) (t : m3 × Int32), n + j = HH → cmR c (WW * HH) z t → cmR c (WW * HH) (f_rws X Y WW w col dp s n j z) (q_rws m X Y WW w col dp s n j t) := by
  intro n
  induction n with
  | zero => intro j z t _ h; exact h
  | succ n ih =>
    intro j z t hn h
    exact ih (j + 1) _ _ (by omega) (cm_row hX hY hW hH hw hs em h3 h4 h6 h7 (by omega) WW 0 z t (by omega) h)
theorem c_ext {c c' : cSt} (h : c_fix c c') : c' = (c.1, c.2.1, (c.2.2.1.1, c'.2.2.1.2.1, c'.2.2.1.2.2.1, c'.2.2.1.2.2.2), c.2.2.2) := by
  obtain ⟨e1, e2, e3, e4⟩ := h
  obtain ⟨x1, x2, ⟨x3, x4, x5, x6⟩, x7⟩ := c'
  dsimp only at e1 e2 e3 e4 ⊢
  rw [e1, e2, e3, e4]
theorem rl_clear {c : cSt} {m : mSt} (h : zrel c m) (w col dp s : Int32) : cOK c ∧ p_MO_clear m w col dp s ∧ agr (f_PT_clear c w col dp s) (f_MO_clear m w col dp s) := by
  obtain ⟨X, Y, WW, HH, q1, q2, q3, q4, q5, q6, g1, g2, l1, l2, g3⟩ := rel_fr h
  have hW2 : WW * HH ≤ 64 * 64 := Nat.mul_le_mul q4 q6
  have hh := h
  refine ⟨h.1, ?_, ?_⟩
  · obtain ⟨⟨th, x0, y0, wd, hi⟩, ⟨sc, dt', dw', eq, ea, lg', wm⟩, ⟨ch, de', sn'⟩, ⟨si, su, fa, cn⟩, ⟨an', vs, vd⟩⟩ := m
    obtain ⟨e1, e2, e3, e4⟩ : x0 = nI X ∧ y0 = nI Y ∧ wd = nI WW ∧ hi = nI HH := by simpa only [Prod.mk.injEq] using g2
    exact ⟨X, Y, WW, HH, q1, q2, q3, q4, q5, q6, e1, e2, e3, e4⟩
  · have key : ∀ (hw : 0 ≤ w ∧ w ≤ 7) (hs : isB s), (f_clr c w col dp s).2 = (q_clr m w col dp s).2 ∧ zrel (f_clr c w col dp s).1 ((0, m.1.2), m.2.1, (q_clr m w col dp s).1, m.2.2.2) := by
      intro hw hs
      obtain ⟨h1, h2, h3, h4, h5, h6, h7, h8, h9, h10, h11, h12⟩ := h
      have f1 : c.2.1.2.1 = nI X := by rw [g1]
      have f2 : c.2.1.2.2.1 = nI Y := by rw [g1]
      have f3 : c.2.1.2.2.2.1 = nI WW := by rw [g1]
      have f4 : c.2.1.2.2.2.2.1 = nI HH := by rw [g1]
      have f5 : c.2.1.2.2.2.2.2 = nI (WW * HH) := by rw [g1]
      have m1 : m.1.2.1 = nI X := by rw [g2]
      have m2 : m.1.2.2.1 = nI Y := by rw [g2]
      have m3 : m.1.2.2.2.1 = nI WW := by rw [g2]
      have m4 : m.1.2.2.2.2 = nI HH := by rw [g2]
      have h12' := h12
      rw [f5, nI_clamp (by omega)] at h12'
      have R := cm_rws (col := col) (dp := dp) q1 q2 q4 q6 hw hs g2 h3 h4 h6 h7 HH 0 (c, 0) (m.2.2.1, 0) (by omega) ⟨rfl, ⟨rfl, rfl, rfl, rfl⟩, h12'⟩
      have ef : f_clr c w col dp s = f_rws X Y WW w col dp s HH 0 (c, 0) := by
        unfold f_clr
        rw [f1, f2, f3, f4, nI_clamp (by omega), nI_clamp (by omega), nI_clamp (by omega), nI_clamp (by omega)]
      have eq' : q_clr m w col dp s = q_rws m X Y WW w col dp s HH 0 (m.2.2.1, 0) := by
        unfold q_clr
        rw [m1, m2, m3, m4, nI_clamp (by omega), nI_clamp (by omega), nI_clamp (by omega), nI_clamp (by omega)]
      rw [← ef, ← eq'] at R
      obtain ⟨r1, r2, r3⟩ := R
      refine ⟨r1, ?_⟩
      generalize f_clr c w col dp s = z at r1 r2 r3 ⊢
      generalize q_clr m w col dp s = t at r1 r2 r3 ⊢
      obtain ⟨⟨x1, x2, ⟨x3, x4, x5, x6⟩, x7⟩, z2⟩ := z
      obtain ⟨e1, e2, e3, e4⟩ := r2
      dsimp only at e1 e2 e3 e4 r3
      subst e1 e2 e3 e4
      refine ⟨h1, h2, h3, h4, h5, h6, h7, h8, h9, h10, h11, ?_⟩
      dsimp only
      rw [f5, nI_clamp (by omega)]
      exact r3
    clear h
    obtain ⟨⟨dt, dw, lg, cb⟩, ⟨rm, fx, fy, fw, fh, ct⟩, ⟨N, co, de, sn⟩, ⟨sa, sb, sd, se⟩, ⟨a0, a1, a2, a3, a4, a5, a6⟩, ⟨b0, b1, b2, b3, b4, b5, b6⟩, ⟨e0, e1, e2, e3, e4, e5, e6⟩, an⟩ := c
    obtain ⟨⟨th, x0, y0, wd, hi⟩, ⟨sc, dt', dw', eq, ea, lg', wm⟩, ⟨ch, de', sn'⟩, ⟨si, su, fa, cn⟩, ⟨an', vs, vd⟩⟩ := m
    unfold f_PT_clear f_MO_clear
    dsimp only
    by_cases z1 : 0 ≤ w ∧ w ≤ 7
    · rw [if_pos z1, if_neg (Classical.not_not.mpr z1)]
      by_cases z2 : 0 ≤ dp ∧ dp ≤ 16777215
      · rw [if_pos z2, if_neg (Classical.not_not.mpr z2)]
        by_cases z3 : 0 ≤ s ∧ s ≤ 255
        · rw [if_pos z3, if_pos z3]
          obtain ⟨k1, k2⟩ := key z1 (isB_le z3)
          exact ⟨rfl, (fun v e => by rw [← e, k1]), k2⟩
        · rw [if_neg z3, if_neg z3]; exact agr_no hh _
      · rw [if_neg z2, if_pos z2]; exact agr_no hh _
    · rw [if_neg z1, if_pos z1]; exact agr_no hh _

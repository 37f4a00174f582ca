theorem r_an_u {a b : Nat → Int32} (h : r_an a b) {k : Nat} (hk : k < 4) : r_an (upd a k (a k + 1)) (upd b k (b k + 1)) := by
  intro j hj
  by_cases e : j = k
  · subst e; rw [pk_us, pk_us, h j hj]
  · rw [pk_un e, pk_un e, h j hj]
theorem all_eq {t : cR} {su : Nat → Int32} {A : Nat} (h : r_st t su A) (x : Int32) : (f_all t.1 t.2.1 t.2.2.1 x = 0) ↔ (¬ su A < 0 ∧ f_hd (su A) (su (A + 1) &&& su (A + 2)) (x &&& su (A + 2)) = 0) := by
  obtain ⟨h0, h⟩ := h
  unfold f_all
  rw [h0]
  rcases h with h | ⟨q, h1, h2, -⟩
  · rw [if_pos h, h]
    constructor
    · intro z; exact absurd z (by decide)
    · rintro ⟨z, -⟩; exact absurd (by decide) z
  · obtain ⟨n1, n2⟩ := nn_m1 q
    rw [if_neg n2, h1.1, h2, ← cmp_eq q]
    by_cases z : f_cmp t.1 (t.2.1 &&& t.2.2.1) (x &&& t.2.2.1) = 0
    · rw [if_pos z]; exact ⟨fun _ => ⟨n1, z⟩, fun _ => rfl⟩
    · rw [if_neg z]; exact ⟨fun y => absurd y (by decide), fun y => absurd y.2 z⟩
/-- the deed on a place's stencil -/
theorem act_eq {t : cR} {su sn sn' : Nat → Int32} {A p w : Nat} {d : Int32} (h : r_st t su A) (hd : ¬ t.1 = -1 → su (A + w) = d ∧ 0 ≤ d ∧ d ≤ 7) (hp : sn' p = sn p) (hb : isB (sn p)) :
    f_act su sn' A p w p = f_chg t (sn p) d ∧ isB (f_chg t (sn p) d) ∧ ∀ q, q ≠ p → f_act su sn' A p w q = sn' q := by
  obtain ⟨h0, h⟩ := h
  unfold f_act f_chg
  rw [h0]
  rcases h with h | ⟨q, h1, h2, h3, -⟩
  · rw [if_pos h, if_pos (by rw [h]; decide)]
    exact ⟨hp, hb, fun _ _ => rfl⟩
  · obtain ⟨n1, n2⟩ := nn_m1 q
    obtain ⟨d1, d2⟩ := hd n2
    rw [if_neg n2, if_neg n1, pk_us, hp, d1, h1.1, h3]
    obtain ⟨k1, k2⟩ := deed_eq h1.2 hb d2
    rw [← k1]
    exact ⟨rfl, isB_mrg hb k2, fun q e => pk_un e⟩
theorem s4_gen {vs : Nat → Int32} {r g b a : Int32} (hr : isB r) (hg : isB g) (hb : isB b) (ha : isB a) : ∀ k, k < 4 → upd (upd (upd (upd vs 0 r) 1 g) 2 b) 3 a k = chn (f_pk r g b a) k := by
  intro k hk
  rw [pk_pack, chn_pack hr hg hb ha k hk]
  rcases k4 hk with rfl | rfl | rfl | rfl <;> rfl
theorem s4_eq {vs : Nat → Int32} {r g b a : Int32} : ∀ k, k < 4 → q_s4 vs r g b a k = chn (f_pk (f_by r) (f_by g) (f_by b) (f_by a)) k := by
  intro k hk
  obtain ⟨e1, b1⟩ := by_eq r
  obtain ⟨e2, b2⟩ := by_eq g
  obtain ⟨e3, b3⟩ := by_eq b
  obtain ⟨e4, b4⟩ := by_eq a
  have := s4_gen (vs := vs) b1 b2 b3 b4 k hk
  unfold q_s4
  rw [this, e1, e2, e3, e4]
theorem d4_eq {vd ch : Nat → Int32} {q : Nat} {x : Int32} (h : ∀ k, k < 4 → ch (4 * q + k) = chn x k) : ∀ k, k < 4 → q_d4 vd ch q k = chn x k := by
  intro k hk
  rw [← h k hk]
  rcases k4 hk with rfl | rfl | rfl | rfl <;> rfl
/-- the new colour, channel by channel -/
theorem new_eq {b : cR} {lg eq ea col x : Int32} {fa cn vs vd : Nat → Int32} (hl : r_lg lg (-1) 15) (hb : r_bl b eq ea fa) (hc : r_cn b.2.2.2.2.2.2 cn) (hs : ∀ k, k < 4 → vs k = chn col k) (hd : ∀ k, k < 4 → vd k = chn x k) :
    ∀ k, k < 4 → q_v lg eq ea vs vd cn fa k = chn (f_new lg b.1 b.2.1 b.2.2.1 b.2.2.2.1 b.2.2.2.2.1 b.2.2.2.2.2.1 b.2.2.2.2.2.2 col x) k := by
  intro k hk
  unfold q_v f_new
  by_cases z : lg = -1
  · rw [if_pos z, if_pos ((m1_le hl).mpr z)]
    obtain ⟨rfl, hb⟩ := hb
    rcases hb with hb | ⟨q0, q1, q2, q3, q4, q5⟩
    · rw [if_pos hb, if_pos (by rw [hb]; decide)]
      exact hs k hk
    · obtain ⟨n1, n2⟩ := nn_m1 q0
      obtain ⟨rfl, q1⟩ := q1
      rw [if_neg n2, if_neg n1]
      exact (bl_eq hs hd hc q2.2 q3.2 q4.2 q5.2 q0 q1 q2.1 q3.1 q4.1 q5.1 k hk).symm
  · rw [if_neg z, if_neg (fun y => z ((m1_le hl).mp y)), lg_eq (ge0 hl z) hk, hs k hk, hd k hk]
theorem rl_open {c : cSt} {m : mSt} (h : zrel c m) {t : cR} {A : Nat} (ht : r_st t m.2.2.2.1.2.1 A) {q : Nat} (hq : q < c.2.1.2.2.2.2.2.toNatClampNeg) (dp r g b a : Int32) :
    agr (f_open (fun k v c' => ((.inl (some (.int v)), c_an c' k) : zO × cSt)) c t q dp (f_pk (f_by r) (f_by g) (f_by b) (f_by a))) (q_dr m A q dp r g b a) := by
  obtain ⟨⟨dt, dw, lg, cb⟩, ⟨rm, fx, fy, fw, fh, ct⟩, ⟨N, co, de, sn⟩, ⟨sa, sb, sd, se⟩, ⟨a0, a1, a2, a3, a4, a5, a6⟩, ⟨b0, b1, b2, b3, b4, b5, b6⟩, ⟨e0, e1, e2, e3, e4, e5, e6⟩, an⟩ := c
  obtain ⟨⟨th, x0, y0, wd, hi⟩, ⟨sc, dt', dw', eq, ea, lg', wm⟩, ⟨ch, de', sn'⟩, ⟨si, su, fa, cn⟩, ⟨an', vs, vd⟩⟩ := m
  obtain ⟨h1, h2, h3, ⟨⟨h4, h4b⟩, h4c⟩, ⟨h5, h5b⟩, h6, h7, h8, h9, h10, h11, h12⟩ := h
  dsimp only at h1 h2 h3 h4 h4b h4c h5 h5b h6 h7 h8 h9 h10 h11 h12 ht hq
  subst h4 h4c h5
  obtain ⟨p1, p2, p3, p4⟩ := h12 q hq
  dsimp only at p1 p2 p3 p4
  unfold f_open q_dr
  dsimp only
  have hal := all_eq ht (sn q)
  rw [p3]
  by_cases z1 : f_all t.1 t.2.1 t.2.2.1 (sn q) = 0
  · rw [if_neg (Classical.not_not.mpr z1), if_pos (hal.mp z1)]
    have hd : ¬ t.1 = -1 → su (A + 4) = t.2.2.2.2.1 ∧ 0 ≤ t.2.2.2.2.1 ∧ t.2.2.2.2.1 ≤ 7 := fun z => ht.2.elim (fun y => absurd y z) (fun y => y.2.2.2.2.1)
    obtain ⟨k1, k2, k3⟩ := act_eq ht hd p3 p4
    refine ⟨rfl, fun v e => e, h1, h2, h3, ⟨⟨rfl, h4b⟩, rfl⟩, ⟨rfl, h5b⟩, h6, h7, h8, h9, h10, r_an_u h11 (by decide), ?_⟩
    intro p hp
    obtain ⟨c1, c2, c3, c4⟩ := h12 p hp
    refine ⟨c1, c2, ?_⟩
    show f_act su sn' A q 4 p = upd sn q (f_chg t (sn q) t.2.2.2.2.1) p ∧ isB (upd sn q (f_chg t (sn q) t.2.2.2.2.1) p)
    by_cases e : p = q
    · subst e; rw [pk_us]; exact ⟨k1, k2⟩
    · rw [pk_un e, k3 p e]; exact ⟨c3, c4⟩
  · rw [if_pos z1, if_neg (fun y => z1 (hal.mpr y)), p2]
    have hcm : ∀ (z : ¬ dt' = -1), (f_cmp dt' dp (de q) = 0) ↔ (¬ dt' < 0 ∧ f_hd dt' dp (de q) = 0) := fun z => ⟨fun y => ⟨fun x => z ((m1_le h4b).mp x), (cmp_eq (ge0 h4b z)).mp y⟩, fun y => (cmp_eq (ge0 h4b z)).mpr y.2⟩
    have hit : agr (f_hit (fun k v c' => ((.inl (some (.int v)), c_an c' k) : zO × cSt)) ((dt', dw', lg', cb), (rm, fx, fy, fw, fh, ct), (N, co, de, sn), (sa, sb, sd, se), (a0, a1, a2, a3, a4, a5, a6), (b0, b1, b2, b3, b4, b5, b6), (e0, e1, e2, e3, e4, e5, e6), an) t q dp (f_pk (f_by r) (f_by g) (f_by b) (f_by a)))
        (.inl (some (.int 3)), ((0, x0, y0, wd, hi), (sc, dt', dw', eq, ea, lg', wm), ((q_dc wm lg' eq ea (q_s4 vs r g b a) (q_d4 vd ch q) cn fa q 4 0 ch), (upd de' q (if ¬ dt' < 0 ∧ ¬ dw' = 0 then dp else de q)), (f_act su sn' A q 6)), (si, su, fa, cn), ((upd an' 3 (an' 3 + 1)), (q_s4 vs r g b a), (q_d4 vd ch q)))) := by
      have hd : ¬ t.1 = -1 → su (A + 6) = t.2.2.2.2.2.2 ∧ 0 ≤ t.2.2.2.2.2.2 ∧ t.2.2.2.2.2.2 ≤ 7 := fun z => ht.2.elim (fun y => absurd y z) (fun y => y.2.2.2.2.2.2)
      obtain ⟨k1, k2, k3⟩ := act_eq ht hd p3 p4
      have ech := ch_gen (F := q_dc wm lg' eq ea (q_s4 vs r g b a) (q_d4 vd ch q) cn fa q) (V := fun k old => if (wm >>> (nI k &&& 31)) &&& 1 = 1 then q_v lg' eq ea (q_s4 vs r g b a) (q_d4 vd ch q) cn fa k else q_d4 vd ch q k) (B := 4 * q) (fun _ _ => rfl) (fun _ _ _ => rfl)
      have hn := new_eq h5b h9 h10 (s4_eq (vs := vs) (r := r) (g := g) (b := b) (a := a)) (d4_eq (vd := vd) p1)
      have pl : ∀ (D : Nat → Int32), (∀ p, upd de' q (if ¬ dt' < 0 ∧ ¬ dw' = 0 then dp else de q) p = (if p = q then (if ¬ dt' < 0 ∧ ¬ dw' = 0 then dp else de q) else de' p)) → (D q = if ¬ dt' < 0 ∧ ¬ dw' = 0 then dp else de q) → (∀ p, p ≠ q → D p = de p) →
          r_pl (upd co q (f_col ((dt', dw', lg', cb), (rm, fx, fy, fw, fh, ct), (N, co, de, sn), (sa, sb, sd, se), (a0, a1, a2, a3, a4, a5, a6), (b0, b1, b2, b3, b4, b5, b6), (e0, e1, e2, e3, e4, e5, e6), an) q (f_pk (f_by r) (f_by g) (f_by b) (f_by a)))) D (upd sn q (f_chg t (sn q) t.2.2.2.2.2.2)) ((q_dc wm lg' eq ea (q_s4 vs r g b a) (q_d4 vd ch q) cn fa q 4 0 ch), (upd de' q (if ¬ dt' < 0 ∧ ¬ dw' = 0 then dp else de q)), (f_act su sn' A q 6)) ct.toNatClampNeg := by
        intro D hu hD1 hD2 p hp
        obtain ⟨c1, c2, c3, c4⟩ := h12 p hp
        dsimp only at c1 c2 c3 c4
        by_cases e : p = q
        · subst e
          refine ⟨fun k hk => ?_, ?_, ?_⟩
          · show q_dc wm lg' eq ea (q_s4 vs r g b a) (q_d4 vd ch p) cn fa p 4 0 ch (4 * p + k) = _
            rw [ech, if_pos (by omega), show 4 * p + k - 4 * p = k by omega, pk_us]
            unfold f_col
            dsimp only
            rw [h6.1, chn_mrg h6.2 hk, hn k hk, d4_eq p1 k hk]
          · show upd de' p _ p = D p
            rw [pk_us, hD1]
          · show f_act su sn' A p 6 p = upd sn p _ p ∧ isB (upd sn p _ p)
            rw [pk_us]; exact ⟨k1, k2⟩
        · refine ⟨fun k hk => ?_, ?_, ?_⟩
          · show q_dc wm lg' eq ea (q_s4 vs r g b a) (q_d4 vd ch q) cn fa q 4 0 ch (4 * p + k) = _
            rw [ech, if_neg (by omega), pk_un e]
            exact c1 k hk
          · show upd de' q _ p = D p
            rw [pk_un e, hD2 p e]
            exact c2
          · show f_act su sn' A q 6 p = upd sn q _ p ∧ isB (upd sn q _ p)
            rw [pk_un e, k3 p e]; exact ⟨c3, c4⟩
      have hu : ∀ p, upd de' q (if ¬ dt' < 0 ∧ ¬ dw' = 0 then dp else de q) p = (if p = q then (if ¬ dt' < 0 ∧ ¬ dw' = 0 then dp else de q) else de' p) := fun p => rfl
      unfold f_hit
      dsimp only
      by_cases z2 : dt' = -1
      · rw [if_pos z2]
        refine ⟨rfl, fun v e => e, h1, h2, h3, ⟨⟨rfl, h4b⟩, rfl⟩, ⟨rfl, h5b⟩, h6, h7, h8, h9, h10, r_an_u h11 (by decide), ?_⟩
        exact pl de hu (by rw [if_neg (fun y => y.1 ((m1_le h4b).mpr z2))]) (fun _ _ => rfl)
      · rw [if_neg z2]
        by_cases z3 : dw' = 0
        · rw [if_pos z3]
          refine ⟨rfl, fun v e => e, h1, h2, h3, ⟨⟨rfl, h4b⟩, rfl⟩, ⟨rfl, h5b⟩, h6, h7, h8, h9, h10, r_an_u h11 (by decide), ?_⟩
          exact pl de hu (by rw [if_neg (fun y => y.2 z3)]) (fun _ _ => rfl)
        · rw [if_neg z3]
          refine ⟨rfl, fun v e => e, h1, h2, h3, ⟨⟨rfl, h4b⟩, rfl⟩, ⟨rfl, h5b⟩, h6, h7, h8, h9, h10, r_an_u h11 (by decide), ?_⟩
          exact pl (upd de q dp) hu (by rw [pk_us, if_pos ⟨fun y => z2 ((m1_le h4b).mp y), z3⟩]) (fun p e => pk_un e)
    by_cases z2 : dt' = -1
    · rw [if_pos z2, if_neg (fun y => y.1 ((m1_le h4b).mpr z2))]
      exact hit
    · rw [if_neg z2]
      by_cases z3 : f_cmp dt' dp (de q) = 0
      · rw [if_neg (Classical.not_not.mpr z3), if_pos ((hcm z2).mp z3)]
        have hd : ¬ t.1 = -1 → su (A + 5) = t.2.2.2.2.2.1 ∧ 0 ≤ t.2.2.2.2.2.1 ∧ t.2.2.2.2.2.1 ≤ 7 := fun z => ht.2.elim (fun y => absurd y z) (fun y => y.2.2.2.2.2.1)
        obtain ⟨k1, k2, k3⟩ := act_eq ht hd p3 p4
        refine ⟨rfl, fun v e => e, h1, h2, h3, ⟨⟨rfl, h4b⟩, rfl⟩, ⟨rfl, h5b⟩, h6, h7, h8, h9, h10, r_an_u h11 (by decide), ?_⟩
        intro p hp
        obtain ⟨c1, c2, c3, c4⟩ := h12 p hp
        refine ⟨c1, c2, ?_⟩
        show f_act su sn' A q 5 p = upd sn q (f_chg t (sn q) t.2.2.2.2.2.1) p ∧ isB (upd sn q (f_chg t (sn q) t.2.2.2.2.2.1) p)
        by_cases e : p = q
        · subst e; rw [pk_us]; exact ⟨k1, k2⟩
        · rw [pk_un e, k3 p e]; exact ⟨c3, c4⟩
      · rw [if_pos z3, if_neg (fun y => z3 ((hcm z2).mpr y))]
        exact hit
theorem rl_draw {c : cSt} {m : mSt} (h : zrel c m) (x y dp s r g b a : Int32) : cIn c x y ∧ p_MO_draw m x y dp s r g b a ∧ agr (f_PT_draw c x y dp s r g b a) (f_MO_draw m x y dp s r g b a) := by
  have hat := rl_at h x y 0
  have ra := fun hh => rel_at h (x := x) (y := y) hh
  have rm := rel_m h x y
  have ro0 := fun (q : Nat) (hq : q < c.2.1.2.2.2.2.2.toNatClampNeg) => rl_open h h.2.2.2.2.2.2.1 hq dp r g b a
  have ro7 := fun (q : Nat) (hq : q < c.2.1.2.2.2.2.2.toNatClampNeg) => rl_open h h.2.2.2.2.2.2.2.1 hq dp r g b a
  have ho := fun (hs : Int32) (hh : ¬ hs = 0) => hold_eq (x := x) (y := y) h.2.2.1 hh
  obtain ⟨⟨dt, dw, lg, cb⟩, ⟨rm', fx, fy, fw, fh, ct⟩, ⟨N, co, de, sn⟩, ⟨sa, sb, sd, se⟩, ⟨a0, a1, a2, a3, a4, a5, a6⟩, ⟨b0, b1, b2, b3, b4, b5, b6⟩, ⟨e0, e1, e2, e3, e4, e5, e6⟩, an⟩ := c
  obtain ⟨⟨th, x0, y0, wd, hi⟩, ⟨sc, dt', dw', eq, ea, lg', wm⟩, ⟨ch, de', sn'⟩, ⟨si, su, fa, cn⟩, ⟨an', vs, vd⟩⟩ := m
  dsimp only at ra rm ho ro0 ro7
  refine ⟨hat.1, ?_, ?_⟩
  · intro hh
    rw [rm] at hh
    obtain ⟨q, h1, h2, h3, h4, h5⟩ := ra hh
    exact ⟨q, h2, h4⟩
  · have no0 : agr (.inl (some (.int 0)), c_an ((dt, dw, lg, cb), (rm', fx, fy, fw, fh, ct), (N, co, de, sn), (sa, sb, sd, se), (a0, a1, a2, a3, a4, a5, a6), (b0, b1, b2, b3, b4, b5, b6), (e0, e1, e2, e3, e4, e5, e6), an) 0) (.inl (some (.int (0))), ((0, x0, y0, wd, hi), (sc, dt', dw', eq, ea, lg', wm), (ch, de', sn'), (si, su, fa, cn), ((upd an' 0 (an' 0 + 1)), vs, vd))) := by
      obtain ⟨h1, h2, h3, h4, h5, h6, h7, h8, h9, h10, h11, h12⟩ := h
      exact ⟨rfl, fun v e => e, h1, h2, h3, h4, h5, h6, h7, h8, h9, h10, r_an_u h11 (by decide), h12⟩
    unfold f_PT_draw f_MO_draw
    dsimp only
    by_cases z1 : 0 ≤ dp ∧ dp ≤ 16777215
    · rw [if_pos z1, if_neg (Classical.not_not.mpr z1)]
      by_cases z2 : 0 ≤ s ∧ s ≤ 1
      · rw [if_pos z2, if_pos z2, rm]
        by_cases hh : f_has fx fy fw fh x y = 0
        · rw [if_pos hh, hh, if_neg (by unfold f_opn; rw [if_pos rfl]; exact fun z => z rfl)]
          exact no0
        · rw [if_neg hh]
          by_cases hz : f_hold sa sb sd se x y = 0
          · rw [if_pos hz, if_neg (fun z => z ((ho _ hh).mp hz))]
            exact no0
          · rw [if_neg hz, if_pos (fun z => hz ((ho _ hh).mpr z))]
            obtain ⟨q, h1, h2, h3, h4, h5⟩ := ra hh
            rw [h3, h4, nI_clamp (by omega)]
            by_cases zs : s = 0
            · rw [if_pos zs, if_pos zs]; exact ro0 q h1
            · rw [if_neg zs, if_neg zs]; exact ro7 q h1
      · rw [if_neg z2, if_neg z2]; exact agr_no h _
    · rw [if_neg z1, if_pos z1]; exact agr_no h _

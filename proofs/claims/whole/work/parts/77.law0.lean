def E_LA_law : ClassId → ClassId → Nat → Nat → Option zEn := fun cI cL kd i => match kd, i with
  | 2, 55 => some (1, none, false, false, 9, 12326, T_PT_init cI cL)
  | 2, 58 => some (1, none, false, false, 10, 24614, T_MO_init cI cL)
  | 0, 59 => some (5, none, false, false, 4, 12297, T_LA_frame cI cL)
  | 1, 64 => some (5, some 5, true, false, 0, 0, T_MO_frame cI cL)
  | 1, 65 => some (1, some 5, true, true, 0, 0, T_MO_thrown cI cL)
  | 1, 69 => some (5, some 0, true, false, 0, 0, T_PT_scissors cI cL)
  | 1, 72 => some (5, some 5, true, false, 0, 0, T_MO_scissors cI cL)
  | 0, 73 => some (3, none, true, false, 1, 6, T_LA_depth cI cL)
  | 1, 76 => some (3, some 5, true, false, 0, 0, T_MO_depth cI cL)
  | 0, 77 => some (9, none, true, false, 1, 6, T_LA_stencil cI cL)
  | 1, 80 => some (9, some 5, true, false, 0, 0, T_MO_stencil cI cL)
  | 0, 81 => some (7, none, true, false, 1, 6, T_LA_blend cI cL)
  | 1, 84 => some (7, some 5, true, false, 0, 0, T_MO_blend cI cL)
  | 1, 85 => some (2, some 0, true, false, 0, 0, T_PT_constant cI cL)
  | 1, 88 => some (2, some 5, true, false, 0, 0, T_MO_constant cI cL)
  | 0, 89 => some (2, none, true, false, 1, 6, T_LA_logic cI cL)
  | 1, 92 => some (2, some 5, true, false, 0, 0, T_MO_logic cI cL)
  | 0, 93 => some (2, none, true, false, 1, 6, T_LA_mask cI cL)
  | 1, 95 => some (2, some 5, true, false, 0, 0, T_MO_mask cI cL)
  | 0, 96 => some (6, none, true, false, 1, 6, T_LA_clear cI cL)
  | 1, 99 => some (5, some 5, true, false, 0, 0, T_MO_clear cI cL)
  | 0, 100 => some (10, none, true, false, 1, 6, T_LA_draw cI cL)
  | 1, 103 => some (9, some 5, true, false, 0, 0, T_MO_draw cI cL)
  | 0, 104 => some (5, none, true, false, 1, 6, T_LA_at cI cL)
  | 1, 107 => some (4, some 5, true, false, 0, 0, T_MO_at cI cL)
  | 0, 108 => some (3, none, true, false, 1, 6, T_LA_drawn cI cL)
  | 1, 111 => some (2, some 5, true, false, 0, 0, T_MO_drawn cI cL)
  | 0, 112 => some (3, none, true, false, 1, 6, T_LA_sum cI cL)
  | 1, 114 => some (2, some 5, true, false, 0, 0, T_MO_sum cI cL)
  | _, _ => none
theorem E_LA_law_k : (∀ cI cL, E_LA_law cI cL 2 55 = some (1, none, false, false, 9, 12326, T_PT_init cI cL)) ∧ (∀ cI cL, E_LA_law cI cL 2 58 = some (1, none, false, false, 10, 24614, T_MO_init cI cL)) ∧ (∀ cI cL, E_LA_law cI cL 0 59 = some (5, none, false, false, 4, 12297, T_LA_frame cI cL)) ∧ (∀ cI cL, E_LA_law cI cL 1 64 = some (5, some 5, true, false, 0, 0, T_MO_frame cI cL)) ∧ (∀ cI cL, E_LA_law cI cL 1 65 = some (1, some 5, true, true, 0, 0, T_MO_thrown cI cL)) ∧ (∀ cI cL, E_LA_law cI cL 1 69 = some (5, some 0, true, false, 0, 0, T_PT_scissors cI cL)) ∧ (∀ cI cL, E_LA_law cI cL 1 72 = some (5, some 5, true, false, 0, 0, T_MO_scissors cI cL)) ∧ (∀ cI cL, E_LA_law cI cL 0 73 = some (3, none, true, false, 1, 6, T_LA_depth cI cL)) ∧ (∀ cI cL, E_LA_law cI cL 1 76 = some (3, some 5, true, false, 0, 0, T_MO_depth cI cL)) ∧ (∀ cI cL, E_LA_law cI cL 0 77 = some (9, none, true, false, 1, 6, T_LA_stencil cI cL)) ∧ (∀ cI cL, E_LA_law cI cL 1 80 = some (9, some 5, true, false, 0, 0, T_MO_stencil cI cL)) ∧ (∀ cI cL, E_LA_law cI cL 0 81 = some (7, none, true, false, 1, 6, T_LA_blend cI cL)) ∧ (∀ cI cL, E_LA_law cI cL 1 84 = some (7, some 5, true, false, 0, 0, T_MO_blend cI cL)) ∧ (∀ cI cL, E_LA_law cI cL 1 85 = some (2, some 0, true, false, 0, 0, T_PT_constant cI cL)) ∧ (∀ cI cL, E_LA_law cI cL 1 88 = some (2, some 5, true, false, 0, 0, T_MO_constant cI cL)) ∧ (∀ cI cL, E_LA_law cI cL 0 89 = some (2, none, true, false, 1, 6, T_LA_logic cI cL)) ∧ (∀ cI cL, E_LA_law cI cL 1 92 = some (2, some 5, true, false, 0, 0, T_MO_logic cI cL)) ∧ (∀ cI cL, E_LA_law cI cL 0 93 = some (2, none, true, false, 1, 6, T_LA_mask cI cL)) ∧ (∀ cI cL, E_LA_law cI cL 1 95 = some (2, some 5, true, false, 0, 0, T_MO_mask cI cL)) ∧ (∀ cI cL, E_LA_law cI cL 0 96 = some (6, none, true, false, 1, 6, T_LA_clear cI cL)) ∧ (∀ cI cL, E_LA_law cI cL 1 99 = some (5, some 5, true, false, 0, 0, T_MO_clear cI cL)) ∧ (∀ cI cL, E_LA_law cI cL 0 100 = some (10, none, true, false, 1, 6, T_LA_draw cI cL)) ∧ (∀ cI cL, E_LA_law cI cL 1 103 = some (9, some 5, true, false, 0, 0, T_MO_draw cI cL)) ∧ (∀ cI cL, E_LA_law cI cL 0 104 = some (5, none, true, false, 1, 6, T_LA_at cI cL)) ∧ (∀ cI cL, E_LA_law cI cL 1 107 = some (4, some 5, true, false, 0, 0, T_MO_at cI cL)) ∧ (∀ cI cL, E_LA_law cI cL 0 108 = some (3, none, true, false, 1, 6, T_LA_drawn cI cL)) ∧ (∀ cI cL, E_LA_law cI cL 1 111 = some (2, some 5, true, false, 0, 0, T_MO_drawn cI cL)) ∧ (∀ cI cL, E_LA_law cI cL 0 112 = some (3, none, true, false, 1, 6, T_LA_sum cI cL)) ∧ (∀ cI cL, E_LA_law cI cL 1 114 = some (2, some 5, true, false, 0, 0, T_MO_sum cI cL)) := ⟨fun _ _ => rfl, fun _ _ => rfl, fun _ _ => rfl, fun _ _ => rfl, fun _ _ => rfl, fun _ _ => rfl, fun _ _ => rfl, fun _ _ => rfl, fun _ _ => rfl, fun _ _ => rfl, fun _ _ => rfl, fun _ _ => rfl, fun _ _ => rfl, fun _ _ => rfl, fun _ _ => rfl, fun _ _ => rfl, fun _ _ => rfl, fun _ _ => rfl, fun _ _ => rfl, fun _ _ => rfl, fun _ _ => rfl, fun _ _ => rfl, fun _ _ => rfl, fun _ _ => rfl, fun _ _ => rfl, fun _ _ => rfl, fun _ _ => rfl, fun _ _ => rfl, fun _ _ => rfl⟩
theorem sm_ite {P : zO × mSt → Prop} {c : Prop} [Decidable c] {a b : zO × mSt} (ha : P a) (hb : P b) : P (if c then a else b) := by
  split
  · exact ha
  · exact hb
theorem sv_scissors (c : cSt) (x y z w : Int32) : (f_PT_scissors c x y z w).1 = .inl none := rfl
theorem sv_constant (c : cSt) (x : Int32) : (f_PT_constant c x).1 = .inl none := rfl
theorem gth (m : mSt) : g_MO_thrown m = m.1.1 := rfl
theorem kOf_k : (∀ v, kOf (.inl v) = 0) ∧ (kOf (.inr 6) = 1) ∧ (kOf (.inr 7) = 2) := ⟨fun _ => rfl, rfl, rfl⟩
theorem oUp_k (o : Nat → Int64) : (∀ v, oUp (.inl (some (.int v))) o = vp_updL o 0 v.toInt64) ∧ (oUp (.inr 6) o = o) ∧ (oUp (.inr 7) o = o) := ⟨fun _ => rfl, rfl, rfl⟩
theorem zl20 : ((2 : Int32) = 0) = False := by decide
theorem lgc (x : Int64) : lg_cmp x x = 0 := by
  unfold lg_cmp
  rw [if_neg (by simp), if_pos rfl]
theorem uL0 (f : Nat → Int64) (x : Int64) : vp_updL f 0 x 0 = x := if_pos rfl
theorem zlen_k (L : Nat) (xs : Nat → Int32) (cI : ClassId) (rec : zRc) (pc : Nat) (lc : zLc) (r : List Value) (h : zH) (wr : Bool) (k q : Nat) : zlen (some (L, xs)) cI rec pc lc (.ref 1000 :: r) h wr k q = rec (pc + 1) lc (.int (nI L) :: r) h wr k q := propext Iff.rfl
theorem hL_g (cI cL : ClassId) (c : cSt) (m : mSt) (o : Nat → Int64) : (∃ fs, (hL cI cL c m o)[0]? = some (.inr (0, fs))) ∧ (∃ fs, (hL cI cL c m o)[10]? = some (.inr (5, fs))) := ⟨⟨_, rfl⟩, ⟨_, rfl⟩⟩
theorem hL_z0 (cI cL : ClassId) (c : cSt) (m : mSt) (o : Nat → Int64) : zob (hL cI cL c m o) 0 0 (fun _ => True) = True := eq_true ⟨rfl, trivial⟩
theorem hL_z10 (cI cL : ClassId) (c : cSt) (m : mSt) (o : Nat → Int64) : zob (hL cI cL c m o) 10 5 (fun _ => True) = True := eq_true ⟨rfl, trivial⟩
theorem hL_m0 (cI cL : ClassId) (c : cSt) (m : mSt) (o : Nat → Int64) : zobm (hL cI cL c m o)[0]? 0 (fun _ => True) = True := eq_true ⟨rfl, trivial⟩
theorem hL_m10 (cI cL : ClassId) (c : cSt) (m : mSt) (o : Nat → Int64) : zobm (hL cI cL c m o)[10]? 5 (fun _ => True) = True := eq_true ⟨rfl, trivial⟩
theorem zcat_0 (cc : ByteArray) (rec : zRc) (lc : zLc) (h : zH) (k q : Nat) : zcat cc rec none lc h k q = False := propext Iff.rfl
theorem hL_21 (cI cL : ClassId) (c : cSt) (m : mSt) (o : Nat → Int64) : (hL cI cL c m o)[21]? = some (.inl (cL, 1, .inr (.inl o))) := rfl
theorem hL_len (cI cL : ClassId) (c : cSt) (m : mSt) (o : Nat → Int64) : (hL cI cL c m o).length = 22 := rfl
theorem hC_L (cI cL : ClassId) (c : cSt) (m : mSt) (o : Nat → Int64) : hC cI c (hMc cI m [.inl (cL, 1, .inr (.inl o))]) = hL cI cL c m o := rfl
def hPc (cI : ClassId) (c : cSt) : Nat → va_E := fun n => match (hC cI c [])[n]? with
  | some x => x
  | none => .inr (0, [])
theorem hL_M (cI cL : ClassId) (c : cSt) (m : mSt) (o : Nat → Int64) : hL cI cL c m o = hM cI (hPc cI c) m [.inl (cL, 1, .inr (.inl o))] := rfl
theorem rdM_L (cI cL : ClassId) (c : cSt) (m : mSt) (o : Nat → Int64) (f : (mSt → zH) → mSt → Prop) : rdM cI (hL cI cL c m o) f = f (fun m' => hL cI cL c m' o) m := by
  rw [hL_M, rdM_f]
  rfl
theorem ixs {i L j : Nat} (hi : i + 9 ≤ L) (hL : L ≤ 4608) (hj : j < 9) : vp_in (nI i + nI j) L ∧ (nI i + nI j).toNatClampNeg = i + j := by
  rw [nI_add]
  exact ⟨pk_in (i + j) L (by omega), nI_clamp (by omega)⟩
def lcL (i : Nat) (o5 o6 : Option Value) : zLc := [some (.ref 1000), some (.ref 0), some (.ref 10), some (.ref 21), some (.int (nI i)), o5, o6]
def zLC (cI cL : ClassId) (L : Nat) (xs : Nat → Int32) (KK : zO → zH → Bool → Nat → Nat → Prop) (Jd : zRc) : Prop := zCl code zGn (E_LA_law cI cL) zXn zSn N_LA zCn (fun _ _ => none) (some (L, xs)) cI cL 202540 8488486 false KK Jd
def nrf (o : Option Value) : Prop := ∀ j, o = some (.ref j) → False
theorem nrf_i (x : Int32) : nrf (some (.int x)) := fun _ h => by cases h
/-- what comes behind a call -/
def zNx (cI cL : ClassId) (i k q : Nat) (Jd : zRc) : Prop := ∀ (c : cSt) (m : mSt) (o : Nat → Int64) (o5 o6 : Option Value) (k' q' : Nat), nrf o5 → nrf o6 → zrel c m → k' ≤ k + 4 → q' ≤ q + 12297 → Jd 1052 (lcL i o5 o6) [] (hL cI cL c m o) true k' q'
theorem sm_depth (m : mSt) (t w : Int32) : (f_MO_depth m t w).1 = .inl none := by
  obtain ⟨⟨th, x0, y0, wd, hi⟩, ⟨sc, dt, dw, eq, ea, lg, wm⟩, ⟨ch, de, sn⟩, ⟨si, su, fa, cn⟩, ⟨an, vs, vd⟩⟩ := m
  unfold f_MO_depth
  dsimp only
  repeat' (refine sm_ite (P := fun z : zO × mSt => z.1 = .inl none) ?_ ?_)
  all_goals rfl
theorem sm_logic (m : mSt) (n : Int32) : (f_MO_logic m n).1 = .inl none := by
  obtain ⟨⟨th, x0, y0, wd, hi⟩, ⟨sc, dt, dw, eq, ea, lg, wm⟩, ⟨ch, de, sn⟩, ⟨si, su, fa, cn⟩, ⟨an, vs, vd⟩⟩ := m
  unfold f_MO_logic
  dsimp only
  repeat' (refine sm_ite (P := fun z : zO × mSt => z.1 = .inl none) ?_ ?_)
  all_goals rfl
theorem sm_mask (m : mSt) (n : Int32) : (f_MO_mask m n).1 = .inl none := by
  obtain ⟨⟨th, x0, y0, wd, hi⟩, ⟨sc, dt, dw, eq, ea, lg, wm⟩, ⟨ch, de, sn⟩, ⟨si, su, fa, cn⟩, ⟨an, vs, vd⟩⟩ := m
  unfold f_MO_mask
  dsimp only
  repeat' (refine sm_ite (P := fun z : zO × mSt => z.1 = .inl none) ?_ ?_)
  all_goals rfl
theorem sm_scissors (m : mSt) (x y z w : Int32) : (f_MO_scissors m x y z w).1 = .inl none := by
  obtain ⟨⟨th, x0, y0, wd, hi⟩, ⟨sc, dt, dw, eq, ea, lg, wm⟩, ⟨ch, de, sn⟩, ⟨si, su, fa, cn⟩, ⟨an, vs, vd⟩⟩ := m
  unfold f_MO_scissors
  dsimp only
  repeat' (refine sm_ite (P := fun z : zO × mSt => z.1 = .inl none) ?_ ?_)
  all_goals rfl
theorem sm_constant (m : mSt) (x : Int32) : (f_MO_constant m x).1 = .inl none := by
  obtain ⟨⟨th, x0, y0, wd, hi⟩, ⟨sc, dt, dw, eq, ea, lg, wm⟩, ⟨ch, de, sn⟩, ⟨si, su, fa, cn⟩, ⟨an, vs, vd⟩⟩ := m
  unfold f_MO_constant
  dsimp only
  repeat' (refine sm_ite (P := fun z : zO × mSt => z.1 = .inl none) ?_ ?_)
  all_goals rfl
theorem sm_blend (m : mSt) (s p u v e g : Int32) : (f_MO_blend m s p u v e g).1 = .inl none := by
  obtain ⟨⟨th, x0, y0, wd, hi⟩, ⟨sc, dt, dw, eq, ea, lg, wm⟩, ⟨ch, de, sn⟩, ⟨si, su, fa, cn⟩, ⟨an, vs, vd⟩⟩ := m
  unfold f_MO_blend
  dsimp only
  repeat' (refine sm_ite (P := fun z : zO × mSt => z.1 = .inl none) ?_ ?_)
  all_goals rfl
theorem sm_stencil (m : mSt) (s t v n w f g k : Int32) : (f_MO_stencil m s t v n w f g k).1 = .inl none := by
  obtain ⟨⟨th, x0, y0, wd, hi⟩, ⟨sc, dt, dw, eq, ea, lg, wm⟩, ⟨ch, de, sn⟩, ⟨si, su, fa, cn⟩, ⟨an, vs, vd⟩⟩ := m
  unfold f_MO_stencil
  dsimp only
  repeat' (refine sm_ite (P := fun z : zO × mSt => z.1 = .inl none) ?_ ?_)
  all_goals rfl
theorem sm_frame (m : mSt) (x y w v : Int32) : (f_MO_frame m x y w v).1 = .inl none := by
  obtain ⟨⟨th, x0, y0, wd, hi⟩, ⟨sc, dt, dw, eq, ea, lg, wm⟩, ⟨ch, de, sn⟩, ⟨si, su, fa, cn⟩, ⟨an, vs, vd⟩⟩ := m
  unfold f_MO_frame
  dsimp only
  repeat' (refine sm_ite (P := fun z : zO × mSt => z.1 = .inl none) ?_ ?_)
  all_goals rfl
theorem sm_clear (m : mSt) (w n p s : Int32) : ∃ zz, (f_MO_clear m w n p s).1 = .inl (some (.int zz)) := by
  obtain ⟨⟨th, x0, y0, wd, hi⟩, ⟨sc, dt, dw, eq, ea, lg, wm⟩, ⟨ch, de, sn⟩, ⟨si, su, fa, cn⟩, ⟨an, vs, vd⟩⟩ := m
  unfold f_MO_clear
  dsimp only
  repeat' (refine sm_ite (P := fun z : zO × mSt => ∃ zz, z.1 = .inl (some (.int zz))) ?_ ?_)
  all_goals exact ⟨_, rfl⟩
theorem sm_draw (m : mSt) (x y p s r g b a : Int32) : ∃ zz, (f_MO_draw m x y p s r g b a).1 = .inl (some (.int zz)) := by
  obtain ⟨⟨th, x0, y0, wd, hi⟩, ⟨sc, dt, dw, eq, ea, lg, wm⟩, ⟨ch, de, sn⟩, ⟨si, su, fa, cn⟩, ⟨an, vs, vd⟩⟩ := m
  unfold f_MO_draw q_dr
  dsimp only
  repeat' (refine sm_ite (P := fun z : zO × mSt => ∃ zz, z.1 = .inl (some (.int zz))) ?_ ?_)
  all_goals exact ⟨_, rfl⟩
theorem sm_at (m : mSt) (x y w : Int32) : ∃ zz, (f_MO_at m x y w).1 = .inl (some (.int zz)) := by
  obtain ⟨⟨th, x0, y0, wd, hi⟩, ⟨sc, dt, dw, eq, ea, lg, wm⟩, ⟨ch, de, sn⟩, ⟨si, su, fa, cn⟩, ⟨an, vs, vd⟩⟩ := m
  unfold f_MO_at
  dsimp only
  repeat' (refine sm_ite (P := fun z : zO × mSt => ∃ zz, z.1 = .inl (some (.int zz))) ?_ ?_)
  all_goals exact ⟨_, rfl⟩
theorem sm_drawn (m : mSt) (n : Int32) : ∃ zz, (f_MO_drawn m n).1 = .inl (some (.int zz)) := by
  obtain ⟨⟨th, x0, y0, wd, hi⟩, ⟨sc, dt, dw, eq, ea, lg, wm⟩, ⟨ch, de, sn⟩, ⟨si, su, fa, cn⟩, ⟨an, vs, vd⟩⟩ := m
  unfold f_MO_drawn
  dsimp only
  repeat' (refine sm_ite (P := fun z : zO × mSt => ∃ zz, z.1 = .inl (some (.int zz))) ?_ ?_)
  all_goals exact ⟨_, rfl⟩
theorem sm_sum (m : mSt) (w : Int32) : ∃ zz, (f_MO_sum m w).1 = .inl (some (.int zz)) := by
  obtain ⟨⟨th, x0, y0, wd, hi⟩, ⟨sc, dt, dw, eq, ea, lg, wm⟩, ⟨ch, de, sn⟩, ⟨si, su, fa, cn⟩, ⟨an, vs, vd⟩⟩ := m
  unfold f_MO_sum
  dsimp only
  repeat' (refine sm_ite (P := fun z : zO × mSt => ∃ zz, z.1 = .inl (some (.int zz))) ?_ ?_)
  all_goals exact ⟨_, rfl⟩

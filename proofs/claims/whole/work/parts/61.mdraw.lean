def q_v (lg eq ea : Int32) (vs vd cn fa : Nat → Int32) (k : Nat) : Int32 := if lg < 0 then (if eq < 0 then vs k else g_bl vs vd cn fa eq ea k) else g_bits lg (vs k) (vd k)
def q_dc (wm lg eq ea : Int32) (vs vd cn fa : Nat → Int32) (q : Nat) : Nat → Nat → (Nat → Int32) → Nat → Int32
  | 0, _, ch => ch
  | n + 1, k, ch => q_dc wm lg eq ea vs vd cn fa q n (k + 1) (upd ch (4 * q + k) (if (wm >>> (nI k &&& 31)) &&& 1 = 1 then q_v lg eq ea vs vd cn fa k else vd k))
def q_s4 (vs : Nat → Int32) (r g b a : Int32) : Nat → Int32 := upd (upd (upd (upd vs 0 (g_by r)) 1 (g_by g)) 2 (g_by b)) 3 (g_by a)
def q_d4 (vd ch : Nat → Int32) (q : Nat) : Nat → Int32 := upd (upd (upd (upd vd 0 (ch (4 * q))) 1 (ch (4 * q + 1))) 2 (ch (4 * q + 2))) 3 (ch (4 * q + 3))
def q_dr (m : mSt) (A q : Nat) (dp r g b a : Int32) : zO × mSt := match m with
  | ((th, x0, y0, wd, hi), (sc, dt, dw, eq, ea, lg, wm), (ch, de, sn), (si, su, fa, cn), (an, vs, vd)) => if ¬ su A < 0 ∧ f_hd (su A) (su (A + 1) &&& su (A + 2)) (sn q &&& su (A + 2)) = 0 then (.inl (some (.int 1)), ((0, x0, y0, wd, hi), (sc, dt, dw, eq, ea, lg, wm), (ch, de, (f_act su sn A q 4)), (si, su, fa, cn), ((upd an 1 (an 1 + 1)), vs, vd))) else if ¬ dt < 0 ∧ f_hd dt dp (de q) = 0 then (.inl (some (.int 2)), ((0, x0, y0, wd, hi), (sc, dt, dw, eq, ea, lg, wm), (ch, de, (f_act su sn A q 5)), (si, su, fa, cn), ((upd an 2 (an 2 + 1)), vs, vd))) else (.inl (some (.int 3)), ((0, x0, y0, wd, hi), (sc, dt, dw, eq, ea, lg, wm), ((q_dc wm lg eq ea (q_s4 vs r g b a) (q_d4 vd ch q) cn fa q 4 0 ch), (upd de q (if ¬ dt < 0 ∧ ¬ dw = 0 then dp else de q)), (f_act su sn A q 6)), (si, su, fa, cn), ((upd an 3 (an 3 + 1)), (q_s4 vs r g b a), (q_d4 vd ch q))))
theorem f_opn_h {sc a b c d hs x y : Int32} (h : ¬ f_opn sc a b c d hs x y = 0) : ¬ hs = 0 := fun z => h (by unfold f_opn; rw [if_pos z])
def f_MO_draw (m : mSt) (a1 a2 a3 a4 a5 a6 a7 a8 : Int32) : zO × mSt := match m with
  | ((th, x0, y0, wd, hi), (sc, dt, dw, eq, ea, lg, wm), (ch, de, sn), (si, su, fa, cn), (an, vs, vd)) => if ¬ (0 ≤ a3 ∧ a3 ≤ 16777215) then (.inl (some (.int (0))), ((1, x0, y0, wd, hi), (sc, dt, dw, eq, ea, lg, wm), (ch, de, sn), (si, su, fa, cn), (an, vs, vd))) else if (0 ≤ a4 ∧ a4 ≤ 1) then (if ¬ f_opn sc (si 0) (si 1) (si 2) (si 3) (f_has x0 y0 wd hi a1 a2) a1 a2 = 0 then (if a4 = 0 then q_dr ((th, x0, y0, wd, hi), (sc, dt, dw, eq, ea, lg, wm), (ch, de, sn), (si, su, fa, cn), (an, vs, vd)) 0 ((a2 - y0) * wd + a1 - x0).toNatClampNeg a3 a5 a6 a7 a8 else q_dr ((th, x0, y0, wd, hi), (sc, dt, dw, eq, ea, lg, wm), (ch, de, sn), (si, su, fa, cn), (an, vs, vd)) 7 ((a2 - y0) * wd + a1 - x0).toNatClampNeg a3 a5 a6 a7 a8) else (.inl (some (.int (0))), ((0, x0, y0, wd, hi), (sc, dt, dw, eq, ea, lg, wm), (ch, de, sn), (si, su, fa, cn), ((upd an 0 (an 0 + 1)), vs, vd)))) else (.inl (some (.int (0))), ((1, x0, y0, wd, hi), (sc, dt, dw, eq, ea, lg, wm), (ch, de, sn), (si, su, fa, cn), (an, vs, vd)))
def p_MO_draw (m : mSt) (a1 a2 a3 a4 a5 a6 a7 a8 : Int32) : Prop := match m with
  | ((th, x0, y0, wd, hi), (sc, dt, dw, eq, ea, lg, wm), (ch, de, sn), (si, su, fa, cn), (an, vs, vd)) => ¬ f_has x0 y0 wd hi a1 a2 = 0 → ∃ q : Nat, q < 4096 ∧ ((a2 - y0) * wd + a1 - x0) = nI q
def T_MO_draw : ClassId → ClassId → zT := fun cI _ as h K => match as with
  | [.ref 10, .int a1, .int a2, .int a3, .int a4, .int a5, .int a6, .int a7, .int a8] => rdM cI h (fun put m => p_MO_draw m a1 a2 a3 a4 a5 a6 a7 a8 ∧ K (f_MO_draw m a1 a2 a3 a4 a5 a6 a7 a8).1 (put (f_MO_draw m a1 a2 a3 a4 a5 a6 a7 a8).2))
  | _ => False
def E_MO_draw : ClassId → ClassId → Nat → Nat → Option zEn := fun cI cL kd i => match kd, i with
  | 0, 62 => some (3, none, true, true, 0, 0, T_MO_in cI cL)
  | 1, 66 => some (3, some 5, true, false, 0, 0, T_MO_refuse cI cL)
  | 1, 91 => some (3, some 5, true, true, 0, 0, T_MO_isOpen cI cL)
  | 1, 115 => some (2, some 5, true, false, 0, 0, T_MO_answer cI cL)
  | 1, 94 => some (3, some 5, true, true, 0, 0, T_MO_placeOf cI cL)
  | 0, 118 => some (3, none, true, true, 0, 0, T_MO_holds cI cL)
  | 1, 121 => some (4, some 5, true, false, 0, 0, T_MO_act cI cL)
  | 0, 124 => some (1, none, true, true, 0, 0, T_MO_byteOf cI cL)
  | 1, 127 => some (2, some 5, true, true, 0, 0, T_MO_bits cI cL)
  | 1, 130 => some (2, some 5, true, true, 0, 0, T_MO_blended cI cL)
  | _, _ => none
theorem E_MO_draw_k : (∀ cI cL, E_MO_draw cI cL 0 62 = some (3, none, true, true, 0, 0, T_MO_in cI cL)) ∧ (∀ cI cL, E_MO_draw cI cL 1 66 = some (3, some 5, true, false, 0, 0, T_MO_refuse cI cL)) ∧ (∀ cI cL, E_MO_draw cI cL 1 91 = some (3, some 5, true, true, 0, 0, T_MO_isOpen cI cL)) ∧ (∀ cI cL, E_MO_draw cI cL 1 115 = some (2, some 5, true, false, 0, 0, T_MO_answer cI cL)) ∧ (∀ cI cL, E_MO_draw cI cL 1 94 = some (3, some 5, true, true, 0, 0, T_MO_placeOf cI cL)) ∧ (∀ cI cL, E_MO_draw cI cL 0 118 = some (3, none, true, true, 0, 0, T_MO_holds cI cL)) ∧ (∀ cI cL, E_MO_draw cI cL 1 121 = some (4, some 5, true, false, 0, 0, T_MO_act cI cL)) ∧ (∀ cI cL, E_MO_draw cI cL 0 124 = some (1, none, true, true, 0, 0, T_MO_byteOf cI cL)) ∧ (∀ cI cL, E_MO_draw cI cL 1 127 = some (2, some 5, true, true, 0, 0, T_MO_bits cI cL)) ∧ (∀ cI cL, E_MO_draw cI cL 1 130 = some (2, some 5, true, true, 0, 0, T_MO_blended cI cL)) := ⟨fun _ _ => rfl, fun _ _ => rfl, fun _ _ => rfl, fun _ _ => rfl, fun _ _ => rfl, fun _ _ => rfl, fun _ _ => rfl, fun _ _ => rfl, fun _ _ => rfl, fun _ _ => rfl⟩

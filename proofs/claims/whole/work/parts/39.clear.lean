theorem f_idx_nI {X Y WW HH i j : Nat} (hX : X ≤ 1023) (hY : Y ≤ 1023) (hW : WW ≤ 64) (hH : HH ≤ 64) (hi : i < WW) (hj : j < HH) : f_idx (nI X) (nI Y) (nI WW) (nI (X + i)) (nI (Y + j)) = nI (j * WW + i) := by
  unfold f_idx
  rw [pk_sub (by omega), pk_sub (by omega), pk_mul, nI_add]
  congr 1
  have h1 : Y + j - Y = j := by omega
  have h2 : X + i - X = i := by omega
  rw [h1, h2]
theorem ix_lt {WW HH i j : Nat} (hi : i < WW) (hj : j < HH) : j * WW + i < WW * HH := by
  have h1 : (j + 1) * WW ≤ HH * WW := Nat.mul_le_mul_right _ hj
  have h2 : (j + 1) * WW = j * WW + WW := Nat.succ_mul _ _
  have h3 : HH * WW = WW * HH := Nat.mul_comm _ _
  omega
def f_stp (X Y WW : Nat) (w col dp s : Int32) (j i : Nat) (z : cSt × Int32) : cSt × Int32 := if f_hold z.1.2.2.2.1.1 z.1.2.2.2.1.2.1 z.1.2.2.2.1.2.2.1 z.1.2.2.2.1.2.2.2 (nI (X + i)) (nI (Y + j)) = 0 then z else (f_cl z.1 (j * WW + i) w col dp s, z.2 + 1)
def f_row (X Y WW : Nat) (w col dp s : Int32) (j : Nat) : Nat → Nat → cSt × Int32 → cSt × Int32
  | 0, _, z => z
  | n + 1, i, z => f_row X Y WW w col dp s j n (i + 1) (f_stp X Y WW w col dp s j i z)
def f_rws (X Y WW : Nat) (w col dp s : Int32) : Nat → Nat → cSt × Int32 → cSt × Int32
  | 0, _, z => z
  | n + 1, j, z => f_rws X Y WW w col dp s n (j + 1) (f_row X Y WW w col dp s j WW 0 z)
/-- what clearing leaves as it was -/
def c_fix (c c' : cSt) : Prop := c'.1 = c.1 ∧ c'.2.1 = c.2.1 ∧ c'.2.2.1.1 = c.2.2.1.1 ∧ c'.2.2.2 = c.2.2.2
theorem c_fix_cl3 {c c0 : cSt} {i : Nat} {w s : Int32} (h : c_fix c0 c) : c_fix c0 (f_cl3 (fun c => c) c i w s) := by
  unfold f_cl3
  split
  · exact h
  · split <;> exact h
theorem c_fix_cl {c : cSt} {i : Nat} {w col dp s : Int32} : c_fix c (f_cl c i w col dp s) := by
  unfold f_cl f_cl1 f_cl2
  split
  · split
    · exact c_fix_cl3 ⟨rfl, rfl, rfl, rfl⟩
    · split
      · exact c_fix_cl3 ⟨rfl, rfl, rfl, rfl⟩
      · split <;> exact c_fix_cl3 ⟨rfl, rfl, rfl, rfl⟩
  · split
    · exact c_fix_cl3 ⟨rfl, rfl, rfl, rfl⟩
    · split
      · exact c_fix_cl3 ⟨rfl, rfl, rfl, rfl⟩
      · split <;> exact c_fix_cl3 ⟨rfl, rfl, rfl, rfl⟩
theorem c_fix_t {a b c : cSt} (h1 : c_fix a b) (h2 : c_fix b c) : c_fix a c := ⟨h2.1.trans h1.1, h2.2.1.trans h1.2.1, h2.2.2.1.trans h1.2.2.1, h2.2.2.2.trans h1.2.2.2⟩
def cOK (c : cSt) : Prop := ∃ X Y WW HH : Nat, X ≤ 1023 ∧ Y ≤ 1023 ∧ 1 ≤ WW ∧ WW ≤ 64 ∧ 1 ≤ HH ∧ HH ≤ 64 ∧ c.2.1.2.1 = nI X ∧ c.2.1.2.2.1 = nI Y ∧ c.2.1.2.2.2.1 = nI WW ∧ c.2.1.2.2.2.2.1 = nI HH ∧ c.2.1.2.2.2.2.2 = nI (WW * HH) ∧ WW * HH ≤ c.2.2.1.1 ∧ c.2.2.1.1 ≤ 4096 ∧ c.2.1.1 = nI c.2.2.1.1
def f_clr (c : cSt) (w col dp s : Int32) : cSt × Int32 := f_rws c.2.1.2.1.toNatClampNeg c.2.1.2.2.1.toNatClampNeg c.2.1.2.2.2.1.toNatClampNeg w col dp s c.2.1.2.2.2.2.1.toNatClampNeg 0 (c, 0)
def f_PT_clear (c : cSt) (w col dp s : Int32) : zO × cSt := match c with
  | ((dt, dw, lg, cb), (rm, fx, fy, fw, fh, ct), (N, co, de, sn), (sa, sb, sd, se), (a0, a1, a2, a3, a4, a5, a6), (b0, b1, b2, b3, b4, b5, b6), (e0, e1, e2, e3, e4, e5, e6), an) => if (0 ≤ w ∧ w ≤ 7) then (if (0 ≤ dp ∧ dp ≤ 16777215) then (if (0 ≤ s ∧ s ≤ 255) then (.inl (some (.int (f_clr ((dt, dw, lg, cb), (rm, fx, fy, fw, fh, ct), (N, co, de, sn), (sa, sb, sd, se), (a0, a1, a2, a3, a4, a5, a6), (b0, b1, b2, b3, b4, b5, b6), (e0, e1, e2, e3, e4, e5, e6), an) w col dp s).2)), (f_clr ((dt, dw, lg, cb), (rm, fx, fy, fw, fh, ct), (N, co, de, sn), (sa, sb, sd, se), (a0, a1, a2, a3, a4, a5, a6), (b0, b1, b2, b3, b4, b5, b6), (e0, e1, e2, e3, e4, e5, e6), an) w col dp s).1) else (.inr 6, ((dt, dw, lg, cb), (rm, fx, fy, fw, fh, ct), (N, co, de, sn), (sa, sb, sd, se), (a0, a1, a2, a3, a4, a5, a6), (b0, b1, b2, b3, b4, b5, b6), (e0, e1, e2, e3, e4, e5, e6), an))) else (.inr 6, ((dt, dw, lg, cb), (rm, fx, fy, fw, fh, ct), (N, co, de, sn), (sa, sb, sd, se), (a0, a1, a2, a3, a4, a5, a6), (b0, b1, b2, b3, b4, b5, b6), (e0, e1, e2, e3, e4, e5, e6), an))) else (.inr 6, ((dt, dw, lg, cb), (rm, fx, fy, fw, fh, ct), (N, co, de, sn), (sa, sb, sd, se), (a0, a1, a2, a3, a4, a5, a6), (b0, b1, b2, b3, b4, b5, b6), (e0, e1, e2, e3, e4, e5, e6), an))
def T_PT_clear : ClassId → ClassId → zT := fun cI _ as h K => ∃ (c : cSt) (r : zH) (w col dp s : Int32), as = [.ref 0, .int w, .int col, .int dp, .int s] ∧ h = hC cI c r ∧ cOK c ∧ K (f_PT_clear c w col dp s).1 (hC cI (f_PT_clear c w col dp s).2 r)
def E_PT_clear : ClassId → ClassId → Nat → Nat → Option zEn := fun cI cL kd i => match kd, i with
  | 0, 60 => some (3, none, true, true, 0, 0, T_PT_isWithin cI cL)
  | 0, 175 => some (1, none, true, true, 0, 0, T_PT_isDepth cI cL)
  | 0, 107 => some (1, none, true, true, 0, 0, T_PT_isByte cI cL)
  | 1, 190 => some (3, some 2, true, true, 0, 0, T_SC_hold cI cL)
  | 1, 194 => some (3, some 1, true, true, 0, 0, T_FR_indexOf cI cL)
  | 1, 198 => some (6, some 0, true, false, 0, 0, T_PT_clearPlace cI cL)
  | _, _ => none
theorem E_PT_clear_k : (∀ cI cL, E_PT_clear cI cL 0 60 = some (3, none, true, true, 0, 0, T_PT_isWithin cI cL)) ∧ (∀ cI cL, E_PT_clear cI cL 0 175 = some (1, none, true, true, 0, 0, T_PT_isDepth cI cL)) ∧ (∀ cI cL, E_PT_clear cI cL 0 107 = some (1, none, true, true, 0, 0, T_PT_isByte cI cL)) ∧ (∀ cI cL, E_PT_clear cI cL 1 190 = some (3, some 2, true, true, 0, 0, T_SC_hold cI cL)) ∧ (∀ cI cL, E_PT_clear cI cL 1 194 = some (3, some 1, true, true, 0, 0, T_FR_indexOf cI cL)) ∧ (∀ cI cL, E_PT_clear cI cL 1 198 = some (6, some 0, true, false, 0, 0, T_PT_clearPlace cI cL)) := ⟨fun _ _ => rfl, fun _ _ => rfl, fun _ _ => rfl, fun _ _ => rfl, fun _ _ => rfl, fun _ _ => rfl⟩
set_option maxHeartbeats 4000000 in
set_option maxRecDepth 100000 in
theorem C_PT_clear {l : Launch} (hl : l.stackTraces = false) : zC l y_PT_clear (Cond.code y_PT_clear prog_1_method_10_code 8 (some .int) :: wsG) (rmL 7 1 6) zcl false 1 6 T_PT_clear := by
  refine zC_of (G := G_PT) (E := E_PT_clear) (X := X_PT) (SL := SL_PT) (NW := zNn) (CS := CS_PT) (ctor := false) hl (by decide) rfl rfl rfl G_PT_ok (fun z => by cases z) CS_PT_ok (fun _ _ _ _ z => by cases z) (List.mem_cons_of_mem _ ka_i) (fun i ci ic z => ⟨X_PT_ok i ci ic z, by decide, by decide⟩) SL_PT_ok (by
    intro p e s m args below meth c D A cI cL hx hb hml hown hts hK hA hEX kd idx en hE
    unfold E_PT_clear at hE
    split at hE
    · cases hE; exact zRow_S (C_PT_isWithin hl) rfl (Or.inl ⟨_, _, rfl⟩) hx hb hml hown hts hK hA hEX (hin_c kb_PT_isWithin) (List.mem_cons_of_mem _ kn_PT) (List.mem_cons_of_mem _ ks_PT_isWithin) (Or.inl (List.mem_cons_of_mem _ km_PT_60)) (by decide) (by decide) (by decide) rfl rfl
    · cases hE; exact zRow_S (C_PT_isDepth hl) rfl (Or.inl ⟨_, _, rfl⟩) hx hb hml hown hts hK hA hEX (hin_c kb_PT_isDepth) (List.mem_cons_of_mem _ kn_PT) (List.mem_cons_of_mem _ ks_PT_isDepth) (Or.inl (List.mem_cons_of_mem _ km_PT_175)) (by decide) (by decide) (by decide) rfl rfl
    · cases hE; exact zRow_S (C_PT_isByte hl) rfl (Or.inl ⟨_, _, rfl⟩) hx hb hml hown hts hK hA hEX (hin_c kb_PT_isByte) (List.mem_cons_of_mem _ kn_PT) (List.mem_cons_of_mem _ ks_PT_isByte) (Or.inl (List.mem_cons_of_mem _ km_PT_107)) (by decide) (by decide) (by decide) rfl rfl
    · cases hE; exact zRow_V (C_SC_hold hl) rfl (Or.inl ⟨_, _, rfl⟩) hx hb hml hown hts hK hA hEX (hin_c kb_SC_hold) (List.mem_cons_of_mem _ kn_SC) (List.mem_cons_of_mem _ ki_SC_hold) (List.mem_cons_of_mem _ kv_SC_hold) rfl (Or.inr ⟨_, List.mem_cons_of_mem _ km_PT_190⟩) (by decide) (by decide) (by decide) rfl rfl
    · cases hE; exact zRow_V (C_FR_indexOf hl) rfl (Or.inl ⟨_, _, rfl⟩) hx hb hml hown hts hK hA hEX (hin_c kb_FR_indexOf) (List.mem_cons_of_mem _ kn_FR) (List.mem_cons_of_mem _ ki_FR_indexOf) (List.mem_cons_of_mem _ kv_FR_indexOf) rfl (Or.inr ⟨_, List.mem_cons_of_mem _ km_PT_194⟩) (by decide) (by decide) (by decide) rfl rfl
    · cases hE; exact zRow_V (C_PT_clearPlace hl) rfl (Or.inl ⟨_, _, rfl⟩) hx hb hml hown hts hK hA hEX (hin_c kb_PT_clearPlace) (List.mem_cons_of_mem _ kn_PT) (List.mem_cons_of_mem _ ki_PT_clearPlace) (List.mem_cons_of_mem _ kv_PT_clearPlace) rfl (Or.inl (List.mem_cons_of_mem _ km_PT_198)) (by decide) (by decide) (by decide) rfl rfl
    · cases hE) ?_
  intro cI cL as h K hT
  obtain ⟨⟨⟨dt, dw, lg, cb⟩, ⟨rm, fx, fy, fw, fh, ct⟩, ⟨N, co, de, sn⟩, ⟨sa, sb, sd, se⟩, ⟨a0, a1, a2, a3, a4, a5, a6⟩, ⟨b0, b1, b2, b3, b4, b5, b6⟩, ⟨e0, e1, e2, e3, e4, e5, e6⟩, an⟩, r, w, col, dp, s, rfl, rfl, hp, hT⟩ := hT
  obtain ⟨X, Y, WW, HH, hX, hY, hW1, hW, hH1, hH, q1, q2, q3, q4, q5, q6, q7, q8⟩ := hp
  dsimp only at q1 q2 q3 q4 q5 q6 q7 q8
  subst q1 q2 q3 q4
  refine ⟨by simp [Value.category], by simp, fun Jd hc => ?_⟩
  have inner : ∀ (j : Nat), j < HH → ∀ (n i : Nat) (c : cSt) (k : Int32) (b : Bool), n + i = WW → c_fix ((dt, dw, lg, cb), (rm, nI X, nI Y, nI WW, nI HH, ct), (N, co, de, sn), (sa, sb, sd, se), (a0, a1, a2, a3, a4, a5, a6), (b0, b1, b2, b3, b4, b5, b6), (e0, e1, e2, e3, e4, e5, e6), an) c →
      (∀ (o : Option Value) (b' : Bool), Jd 67 [some (.ref 0), some (.int w), some (.int col), some (.int dp), some (.int s), some (.int (f_row X Y WW w col dp s j n i (c, k)).2), some (.int (nI (Y + (j + 1)))), o] [] (hC cI (f_row X Y WW w col dp s j n i (c, k)).1 r) b' 0 0) → Jd 96 [some (.ref 0), some (.int w), some (.int col), some (.int dp), some (.int s), some (.int k), some (.int (nI (Y + j))), some (.int (nI (X + i)))] [] (hC cI c r) b 0 0 := by
    intro j hj n
    induction n with
    | zero =>
      intro i c k b hi hf hk
      have hk := hk (some (.int (nI (X + i)))) b
      have e : i = WW := by omega
      subst e
      have hle : nI X + nI i ≤ nI (X + i) := by rw [nI_add]; exact Int32.le_refl _
      obtain ⟨c1, c2, ⟨c3, co1, de1, sn1⟩, c4⟩ := c
      obtain ⟨f1, f2, f3, f4⟩ := hf
      dsimp only at f1 f2 f3 f4
      subst f1 f2 f3 f4
      refine z_at2 hc 96 67 40 ?_
      have ee2 : nI (Y + j) + 1 = nI (Y + (j + 1)) := nI_1 _
      simp only [f_row, hC, hR, ← ee2] at hk
      simp (maxSteps := 4000000) only [hle, zlc, zif0, zf3, D_PT_clear_0, D_PT_clear_1, G_PT_k, E_PT_clear_k, T_PT_isWithin, f_wi_0, znr_wi, T_PT_isDepth, T_PT_isByte, T_SC_hold, T_FR_indexOf, T_PT_clearPlace, rdC_k, CS_PT_k, N_PT_k, hC, hR, Classical.not_not, zw_J2, zk_iconst, zk_bipush, zk_sipush, zk_ldc, zk_ldc_w, zk_aconst_null, zk_iload_n, zk_iload, zk_aload_n, zk_aload, zk_istore_n, zk_istore, zk_astore_n, zk_astore, zk_iinc, zk_iadd, zk_isub, zk_imul, zk_idiv, zk_iand, zk_ior, zk_ixor, zk_ishl, zk_ishr, zk_iushr, zk_i2l, zk_lcmp, zk_dup, zk_pop, zk_dup_x1, zk_dup2, zk_dup_x2, zk_goto, zk_ifCond, zk_if_icmp, zk_tableswitch, zk_getfield, zk_putfield, zk_iaload, zk_iastore, zk_laload, zk_lastore, zk_arraylength, zk_invokestatic, zk_invokevirtual, zk_invokespecial, zk_new, zk_newarray, zk_ireturn, zk_areturn, zk_return_, zi1_k, zi2_k, zr1_k, zri_k, zrii_k, zril_k, zvr_k, zl2_k, zv1_k, zv2_k, zv3_k, zli_k, zlr_k, zob_k, zai_k, zal_k, zfv_k, zlim_k, zlrm_k, zobm_k, zaim_k, zalm_k, zfvm_k, zgetf_k, zput_k, zcal_k, zrv_n, zrv_s, zswT_n, zswT_c, zgo_k, zcc_eq, zcc_ne, zcc_lt, zcc_ge, zcc_gt, zcc_le, zldj_k, zexc_k, znew_k, zial_k, zct_i, zct_l, zct_r, zct_n, zKK_r, zKK_x, znr_i, znr_0, znr_1, znr_v, znr_a, znr_o, znar_i, znar_r, znar_a, zfit_i, zfit_r, zfit_a, zbc, zlit, eq_self, List.getElem?_cons_zero, List.getElem?_cons_succ, List.set_cons_zero, List.set_cons_succ, List.take_succ_cons, List.take_zero, List.drop_succ_cons, List.drop_zero, List.reverse_cons, List.reverse_nil, List.nil_append, List.cons_append, List.append_nil, List.length_cons, List.length_nil, List.map_cons, List.map_nil, List.sum_cons, List.sum_nil, Option.toList_some, Option.toList_none, Nat.zero_add, Nat.add_zero, Bool.or_false, Bool.false_or, Bool.or_true, Bool.true_or, Bool.not_true, Bool.not_false, ge_iff_le, Fin.isValue, Fin.val_zero, Fin.val_one, Fin.val_two, true_and, and_true, true_implies, false_implies, forall_const, if_true, if_false, ite_true, ite_false, reduceIte, reduceCtorEq, true_or, or_true, and_self, implies_true, not_false_eq_true, not_true_eq_false, Nat.le_refl, Nat.zero_le, and_false, false_and, Nat.reduceAdd, Nat.reduceSub, Nat.reduceLT, Nat.reduceLeDiff, Nat.reduceMul, Nat.reduceEqDiff, Int.reduceAdd, Int.reduceNeg, Int.reduceToNat, Int.reduceLE, Int.reduceNatCast, Int.reduceSub, Int.reduceLT, Int.reduceEq, List.replicate_zero, List.replicate_succ, Int.reduceNatCast', Int32.reduceOfInt, Int32.reduceLT, Int32.reduceLE, Int32.reduceAdd, Int32.reduceSub, Int32.reduceMul, Int32.reduceToInt, Int32.reduceToNatClampNeg]
      exact hk
    | succ n ih =>
      intro i c k b hi hf hk
      have hlt : ¬ nI X + nI WW ≤ nI (X + i) := by rw [nI_add]; exact nI_ge (by omega) (by omega)
      have hidx := f_idx_nI hX hY hW hH (show i < WW by omega) hj
      have hij := ix_lt (show i < WW by omega) hj
      have hcl : (nI (j * WW + i)).toNatClampNeg = j * WW + i := nI_clamp (by omega)
      obtain ⟨c1, c2, ⟨c3, co1, de1, sn1⟩, c4⟩ := c
      obtain ⟨f1, f2, f3, f4⟩ := hf
      dsimp only at f1 f2 f3 f4
      subst f1 f2 f3 f4
      have hin : vp_in (nI (j * WW + i)) c3 := vp_in_nI (by omega) (by omega)
      have ee2 : nI (X + i) + 1 = nI (X + (i + 1)) := nI_1 _
      by_cases hh : f_hold sa sb sd se (nI (X + i)) (nI (Y + j)) = 0
      · have ih := ih (i + 1) ((dt, dw, lg, cb), (rm, nI X, nI Y, nI WW, nI HH, ct), (c3, co1, de1, sn1), (sa, sb, sd, se), (a0, a1, a2, a3, a4, a5, a6), (b0, b1, b2, b3, b4, b5, b6), (e0, e1, e2, e3, e4, e5, e6), an) k b (by omega) ⟨rfl, rfl, rfl, rfl⟩ (fun o b' => by simpa only [f_row, f_stp, hh, if_true] using hk o b')
        refine z_at2 hc 96 67 40 ?_
        simp only [hC, hR, ← ee2] at ih
        simp (maxSteps := 4000000) only [hlt, hh, zlc, zif0, zf3, D_PT_clear_0, D_PT_clear_1, G_PT_k, E_PT_clear_k, T_PT_isWithin, f_wi_0, znr_wi, T_PT_isDepth, T_PT_isByte, T_SC_hold, T_FR_indexOf, T_PT_clearPlace, rdC_k, CS_PT_k, N_PT_k, hC, hR, Classical.not_not, zw_J2, zk_iconst, zk_bipush, zk_sipush, zk_ldc, zk_ldc_w, zk_aconst_null, zk_iload_n, zk_iload, zk_aload_n, zk_aload, zk_istore_n, zk_istore, zk_astore_n, zk_astore, zk_iinc, zk_iadd, zk_isub, zk_imul, zk_idiv, zk_iand, zk_ior, zk_ixor, zk_ishl, zk_ishr, zk_iushr, zk_i2l, zk_lcmp, zk_dup, zk_pop, zk_dup_x1, zk_dup2, zk_dup_x2, zk_goto, zk_ifCond, zk_if_icmp, zk_tableswitch, zk_getfield, zk_putfield, zk_iaload, zk_iastore, zk_laload, zk_lastore, zk_arraylength, zk_invokestatic, zk_invokevirtual, zk_invokespecial, zk_new, zk_newarray, zk_ireturn, zk_areturn, zk_return_, zi1_k, zi2_k, zr1_k, zri_k, zrii_k, zril_k, zvr_k, zl2_k, zv1_k, zv2_k, zv3_k, zli_k, zlr_k, zob_k, zai_k, zal_k, zfv_k, zlim_k, zlrm_k, zobm_k, zaim_k, zalm_k, zfvm_k, zgetf_k, zput_k, zcal_k, zrv_n, zrv_s, zswT_n, zswT_c, zgo_k, zcc_eq, zcc_ne, zcc_lt, zcc_ge, zcc_gt, zcc_le, zldj_k, zexc_k, znew_k, zial_k, zct_i, zct_l, zct_r, zct_n, zKK_r, zKK_x, znr_i, znr_0, znr_1, znr_v, znr_a, znr_o, znar_i, znar_r, znar_a, zfit_i, zfit_r, zfit_a, zbc, zlit, eq_self, List.getElem?_cons_zero, List.getElem?_cons_succ, List.set_cons_zero, List.set_cons_succ, List.take_succ_cons, List.take_zero, List.drop_succ_cons, List.drop_zero, List.reverse_cons, List.reverse_nil, List.nil_append, List.cons_append, List.append_nil, List.length_cons, List.length_nil, List.map_cons, List.map_nil, List.sum_cons, List.sum_nil, Option.toList_some, Option.toList_none, Nat.zero_add, Nat.add_zero, Bool.or_false, Bool.false_or, Bool.or_true, Bool.true_or, Bool.not_true, Bool.not_false, ge_iff_le, Fin.isValue, Fin.val_zero, Fin.val_one, Fin.val_two, true_and, and_true, true_implies, false_implies, forall_const, if_true, if_false, ite_true, ite_false, reduceIte, reduceCtorEq, true_or, or_true, and_self, implies_true, not_false_eq_true, not_true_eq_false, Nat.le_refl, Nat.zero_le, and_false, false_and, Nat.reduceAdd, Nat.reduceSub, Nat.reduceLT, Nat.reduceLeDiff, Nat.reduceMul, Nat.reduceEqDiff, Int.reduceAdd, Int.reduceNeg, Int.reduceToNat, Int.reduceLE, Int.reduceNatCast, Int.reduceSub, Int.reduceLT, Int.reduceEq, List.replicate_zero, List.replicate_succ, Int.reduceNatCast', Int32.reduceOfInt, Int32.reduceLT, Int32.reduceLE, Int32.reduceAdd, Int32.reduceSub, Int32.reduceMul, Int32.reduceToInt, Int32.reduceToNatClampNeg]
        exact ih
      · have ih := ih (i + 1) _ (k + 1) true (by omega) (c_fix_cl (c := ((dt, dw, lg, cb), (rm, nI X, nI Y, nI WW, nI HH, ct), (c3, co1, de1, sn1), (sa, sb, sd, se), (a0, a1, a2, a3, a4, a5, a6), (b0, b1, b2, b3, b4, b5, b6), (e0, e1, e2, e3, e4, e5, e6), an)) (i := j * WW + i) (w := w) (col := col) (dp := dp) (s := s)) (fun o b' => by simpa only [f_row, f_stp, hh, if_false] using hk o b')
        refine z_at2 hc 96 67 40 ?_
        simp only [hC, hR, ← ee2] at ih
        simp (maxSteps := 4000000) only [hlt, hh, hidx, hcl, hin, zlc, zif0, zf3, D_PT_clear_0, D_PT_clear_1, G_PT_k, E_PT_clear_k, T_PT_isWithin, f_wi_0, znr_wi, T_PT_isDepth, T_PT_isByte, T_SC_hold, T_FR_indexOf, T_PT_clearPlace, rdC_k, CS_PT_k, N_PT_k, hC, hR, Classical.not_not, zw_J2, zk_iconst, zk_bipush, zk_sipush, zk_ldc, zk_ldc_w, zk_aconst_null, zk_iload_n, zk_iload, zk_aload_n, zk_aload, zk_istore_n, zk_istore, zk_astore_n, zk_astore, zk_iinc, zk_iadd, zk_isub, zk_imul, zk_idiv, zk_iand, zk_ior, zk_ixor, zk_ishl, zk_ishr, zk_iushr, zk_i2l, zk_lcmp, zk_dup, zk_pop, zk_dup_x1, zk_dup2, zk_dup_x2, zk_goto, zk_ifCond, zk_if_icmp, zk_tableswitch, zk_getfield, zk_putfield, zk_iaload, zk_iastore, zk_laload, zk_lastore, zk_arraylength, zk_invokestatic, zk_invokevirtual, zk_invokespecial, zk_new, zk_newarray, zk_ireturn, zk_areturn, zk_return_, zi1_k, zi2_k, zr1_k, zri_k, zrii_k, zril_k, zvr_k, zl2_k, zv1_k, zv2_k, zv3_k, zli_k, zlr_k, zob_k, zai_k, zal_k, zfv_k, zlim_k, zlrm_k, zobm_k, zaim_k, zalm_k, zfvm_k, zgetf_k, zput_k, zcal_k, zrv_n, zrv_s, zswT_n, zswT_c, zgo_k, zcc_eq, zcc_ne, zcc_lt, zcc_ge, zcc_gt, zcc_le, zldj_k, zexc_k, znew_k, zial_k, zct_i, zct_l, zct_r, zct_n, zKK_r, zKK_x, znr_i, znr_0, znr_1, znr_v, znr_a, znr_o, znar_i, znar_r, znar_a, zfit_i, zfit_r, zfit_a, zbc, zlit, eq_self, List.getElem?_cons_zero, List.getElem?_cons_succ, List.set_cons_zero, List.set_cons_succ, List.take_succ_cons, List.take_zero, List.drop_succ_cons, List.drop_zero, List.reverse_cons, List.reverse_nil, List.nil_append, List.cons_append, List.append_nil, List.length_cons, List.length_nil, List.map_cons, List.map_nil, List.sum_cons, List.sum_nil, Option.toList_some, Option.toList_none, Nat.zero_add, Nat.add_zero, Bool.or_false, Bool.false_or, Bool.or_true, Bool.true_or, Bool.not_true, Bool.not_false, ge_iff_le, Fin.isValue, Fin.val_zero, Fin.val_one, Fin.val_two, true_and, and_true, true_implies, false_implies, forall_const, if_true, if_false, ite_true, ite_false, reduceIte, reduceCtorEq, true_or, or_true, and_self, implies_true, not_false_eq_true, not_true_eq_false, Nat.le_refl, Nat.zero_le, and_false, false_and, Nat.reduceAdd, Nat.reduceSub, Nat.reduceLT, Nat.reduceLeDiff, Nat.reduceMul, Nat.reduceEqDiff, Int.reduceAdd, Int.reduceNeg, Int.reduceToNat, Int.reduceLE, Int.reduceNatCast, Int.reduceSub, Int.reduceLT, Int.reduceEq, List.replicate_zero, List.replicate_succ, Int.reduceNatCast', Int32.reduceOfInt, Int32.reduceLT, Int32.reduceLE, Int32.reduceAdd, Int32.reduceSub, Int32.reduceMul, Int32.reduceToInt, Int32.reduceToNatClampNeg]
        exact ih
  have outer : ∀ (n j : Nat) (c : cSt) (k : Int32) (b : Bool) (o : Option Value), n + j = HH → c_fix ((dt, dw, lg, cb), (rm, nI X, nI Y, nI WW, nI HH, ct), (N, co, de, sn), (sa, sb, sd, se), (a0, a1, a2, a3, a4, a5, a6), (b0, b1, b2, b3, b4, b5, b6), (e0, e1, e2, e3, e4, e5, e6), an) c → K (.inl (some (.int (f_rws X Y WW w col dp s n j (c, k)).2))) (hC cI (f_rws X Y WW w col dp s n j (c, k)).1 r) → Jd 67 [some (.ref 0), some (.int w), some (.int col), some (.int dp), some (.int s), some (.int k), some (.int (nI (Y + j))), o] [] (hC cI c r) b 0 0 := by
    intro n
    induction n with
    | zero =>
      intro j c k b o hj hf hk
      have e : j = HH := by omega
      subst e
      have hle : nI Y + nI j ≤ nI (Y + j) := by rw [nI_add]; exact Int32.le_refl _
      obtain ⟨c1, c2, ⟨c3, co1, de1, sn1⟩, c4⟩ := c
      obtain ⟨f1, f2, f3, f4⟩ := hf
      dsimp only at f1 f2 f3 f4
      subst f1 f2 f3 f4
      refine z_at2 hc 96 67 40 ?_
      simp only [f_rws, hC, hR] at hk
      simp (maxSteps := 4000000) only [hle, zlc, zif0, zf3, D_PT_clear_0, D_PT_clear_1, G_PT_k, E_PT_clear_k, T_PT_isWithin, f_wi_0, znr_wi, T_PT_isDepth, T_PT_isByte, T_SC_hold, T_FR_indexOf, T_PT_clearPlace, rdC_k, CS_PT_k, N_PT_k, hC, hR, Classical.not_not, zw_J2, zk_iconst, zk_bipush, zk_sipush, zk_ldc, zk_ldc_w, zk_aconst_null, zk_iload_n, zk_iload, zk_aload_n, zk_aload, zk_istore_n, zk_istore, zk_astore_n, zk_astore, zk_iinc, zk_iadd, zk_isub, zk_imul, zk_idiv, zk_iand, zk_ior, zk_ixor, zk_ishl, zk_ishr, zk_iushr, zk_i2l, zk_lcmp, zk_dup, zk_pop, zk_dup_x1, zk_dup2, zk_dup_x2, zk_goto, zk_ifCond, zk_if_icmp, zk_tableswitch, zk_getfield, zk_putfield, zk_iaload, zk_iastore, zk_laload, zk_lastore, zk_arraylength, zk_invokestatic, zk_invokevirtual, zk_invokespecial, zk_new, zk_newarray, zk_ireturn, zk_areturn, zk_return_, zi1_k, zi2_k, zr1_k, zri_k, zrii_k, zril_k, zvr_k, zl2_k, zv1_k, zv2_k, zv3_k, zli_k, zlr_k, zob_k, zai_k, zal_k, zfv_k, zlim_k, zlrm_k, zobm_k, zaim_k, zalm_k, zfvm_k, zgetf_k, zput_k, zcal_k, zrv_n, zrv_s, zswT_n, zswT_c, zgo_k, zcc_eq, zcc_ne, zcc_lt, zcc_ge, zcc_gt, zcc_le, zldj_k, zexc_k, znew_k, zial_k, zct_i, zct_l, zct_r, zct_n, zKK_r, zKK_x, znr_i, znr_0, znr_1, znr_v, znr_a, znr_o, znar_i, znar_r, znar_a, zfit_i, zfit_r, zfit_a, zbc, zlit, eq_self, List.getElem?_cons_zero, List.getElem?_cons_succ, List.set_cons_zero, List.set_cons_succ, List.take_succ_cons, List.take_zero, List.drop_succ_cons, List.drop_zero, List.reverse_cons, List.reverse_nil, List.nil_append, List.cons_append, List.append_nil, List.length_cons, List.length_nil, List.map_cons, List.map_nil, List.sum_cons, List.sum_nil, Option.toList_some, Option.toList_none, Nat.zero_add, Nat.add_zero, Bool.or_false, Bool.false_or, Bool.or_true, Bool.true_or, Bool.not_true, Bool.not_false, ge_iff_le, Fin.isValue, Fin.val_zero, Fin.val_one, Fin.val_two, true_and, and_true, true_implies, false_implies, forall_const, if_true, if_false, ite_true, ite_false, reduceIte, reduceCtorEq, true_or, or_true, and_self, implies_true, not_false_eq_true, not_true_eq_false, Nat.le_refl, Nat.zero_le, and_false, false_and, Nat.reduceAdd, Nat.reduceSub, Nat.reduceLT, Nat.reduceLeDiff, Nat.reduceMul, Nat.reduceEqDiff, Int.reduceAdd, Int.reduceNeg, Int.reduceToNat, Int.reduceLE, Int.reduceNatCast, Int.reduceSub, Int.reduceLT, Int.reduceEq, List.replicate_zero, List.replicate_succ, Int.reduceNatCast', Int32.reduceOfInt, Int32.reduceLT, Int32.reduceLE, Int32.reduceAdd, Int32.reduceSub, Int32.reduceMul, Int32.reduceToInt, Int32.reduceToNatClampNeg]
      exact hk
    | succ n ih =>
      intro j c k b o hj hf hk
      have hlt : ¬ nI Y + nI HH ≤ nI (Y + j) := by rw [nI_add]; exact nI_ge (by omega) (by omega)
      have hrow : c_fix ((dt, dw, lg, cb), (rm, nI X, nI Y, nI WW, nI HH, ct), (N, co, de, sn), (sa, sb, sd, se), (a0, a1, a2, a3, a4, a5, a6), (b0, b1, b2, b3, b4, b5, b6), (e0, e1, e2, e3, e4, e5, e6), an) (f_row X Y WW w col dp s j WW 0 (c, k)).1 := by
        have : ∀ (n i : Nat) (c : cSt) (k : Int32), c_fix ((dt, dw, lg, cb), (rm, nI X, nI Y, nI WW, nI HH, ct), (N, co, de, sn), (sa, sb, sd, se), (a0, a1, a2, a3, a4, a5, a6), (b0, b1, b2, b3, b4, b5, b6), (e0, e1, e2, e3, e4, e5, e6), an) c → c_fix ((dt, dw, lg, cb), (rm, nI X, nI Y, nI WW, nI HH, ct), (N, co, de, sn), (sa, sb, sd, se), (a0, a1, a2, a3, a4, a5, a6), (b0, b1, b2, b3, b4, b5, b6), (e0, e1, e2, e3, e4, e5, e6), an) (f_row X Y WW w col dp s j n i (c, k)).1 := by
          intro n
          induction n with
          | zero => intro i c k h; exact h
          | succ n ih =>
            intro i c k h
            unfold f_row f_stp
            split
            · exact ih _ _ _ h
            · exact ih _ _ _ (c_fix_t h c_fix_cl)
        exact this WW 0 c k hf
      have hin := inner j (by omega) WW 0 c k b (by omega) hf (fun o b' => ih (j + 1) _ _ b' o (by omega) hrow (by simpa only [f_rws] using hk))
      rw [Nat.add_zero] at hin
      obtain ⟨c1, c2, ⟨c3, co1, de1, sn1⟩, c4⟩ := c
      obtain ⟨f1, f2, f3, f4⟩ := hf
      dsimp only at f1 f2 f3 f4
      subst f1 f2 f3 f4
      refine z_at2 hc 96 67 40 ?_
      simp only [hC, hR] at hin
      simp (maxSteps := 4000000) only [hlt, zlc, zif0, zf3, D_PT_clear_0, D_PT_clear_1, G_PT_k, E_PT_clear_k, T_PT_isWithin, f_wi_0, znr_wi, T_PT_isDepth, T_PT_isByte, T_SC_hold, T_FR_indexOf, T_PT_clearPlace, rdC_k, CS_PT_k, N_PT_k, hC, hR, Classical.not_not, zw_J2, zk_iconst, zk_bipush, zk_sipush, zk_ldc, zk_ldc_w, zk_aconst_null, zk_iload_n, zk_iload, zk_aload_n, zk_aload, zk_istore_n, zk_istore, zk_astore_n, zk_astore, zk_iinc, zk_iadd, zk_isub, zk_imul, zk_idiv, zk_iand, zk_ior, zk_ixor, zk_ishl, zk_ishr, zk_iushr, zk_i2l, zk_lcmp, zk_dup, zk_pop, zk_dup_x1, zk_dup2, zk_dup_x2, zk_goto, zk_ifCond, zk_if_icmp, zk_tableswitch, zk_getfield, zk_putfield, zk_iaload, zk_iastore, zk_laload, zk_lastore, zk_arraylength, zk_invokestatic, zk_invokevirtual, zk_invokespecial, zk_new, zk_newarray, zk_ireturn, zk_areturn, zk_return_, zi1_k, zi2_k, zr1_k, zri_k, zrii_k, zril_k, zvr_k, zl2_k, zv1_k, zv2_k, zv3_k, zli_k, zlr_k, zob_k, zai_k, zal_k, zfv_k, zlim_k, zlrm_k, zobm_k, zaim_k, zalm_k, zfvm_k, zgetf_k, zput_k, zcal_k, zrv_n, zrv_s, zswT_n, zswT_c, zgo_k, zcc_eq, zcc_ne, zcc_lt, zcc_ge, zcc_gt, zcc_le, zldj_k, zexc_k, znew_k, zial_k, zct_i, zct_l, zct_r, zct_n, zKK_r, zKK_x, znr_i, znr_0, znr_1, znr_v, znr_a, znr_o, znar_i, znar_r, znar_a, zfit_i, zfit_r, zfit_a, zbc, zlit, eq_self, List.getElem?_cons_zero, List.getElem?_cons_succ, List.set_cons_zero, List.set_cons_succ, List.take_succ_cons, List.take_zero, List.drop_succ_cons, List.drop_zero, List.reverse_cons, List.reverse_nil, List.nil_append, List.cons_append, List.append_nil, List.length_cons, List.length_nil, List.map_cons, List.map_nil, List.sum_cons, List.sum_nil, Option.toList_some, Option.toList_none, Nat.zero_add, Nat.add_zero, Bool.or_false, Bool.false_or, Bool.or_true, Bool.true_or, Bool.not_true, Bool.not_false, ge_iff_le, Fin.isValue, Fin.val_zero, Fin.val_one, Fin.val_two, true_and, and_true, true_implies, false_implies, forall_const, if_true, if_false, ite_true, ite_false, reduceIte, reduceCtorEq, true_or, or_true, and_self, implies_true, not_false_eq_true, not_true_eq_false, Nat.le_refl, Nat.zero_le, and_false, false_and, Nat.reduceAdd, Nat.reduceSub, Nat.reduceLT, Nat.reduceLeDiff, Nat.reduceMul, Nat.reduceEqDiff, Int.reduceAdd, Int.reduceNeg, Int.reduceToNat, Int.reduceLE, Int.reduceNatCast, Int.reduceSub, Int.reduceLT, Int.reduceEq, List.replicate_zero, List.replicate_succ, Int.reduceNatCast', Int32.reduceOfInt, Int32.reduceLT, Int32.reduceLE, Int32.reduceAdd, Int32.reduceSub, Int32.reduceMul, Int32.reduceToInt, Int32.reduceToNatClampNeg]
      exact hin
  simp only [f_PT_clear, zKp K (fun c => hC cI c r), Classical.not_not] at hT
  have fin : K (.inl (some (.int (f_clr ((dt, dw, lg, cb), (rm, nI X, nI Y, nI WW, nI HH, ct), (N, co, de, sn), (sa, sb, sd, se), (a0, a1, a2, a3, a4, a5, a6), (b0, b1, b2, b3, b4, b5, b6), (e0, e1, e2, e3, e4, e5, e6), an) w col dp s).2))) (hC cI (f_clr ((dt, dw, lg, cb), (rm, nI X, nI Y, nI WW, nI HH, ct), (N, co, de, sn), (sa, sb, sd, se), (a0, a1, a2, a3, a4, a5, a6), (b0, b1, b2, b3, b4, b5, b6), (e0, e1, e2, e3, e4, e5, e6), an) w col dp s).1 r) → Jd 67 [some (.ref 0), some (.int w), some (.int col), some (.int dp), some (.int s), some (.int 0), some (.int (nI Y)), none] [] (hC cI ((dt, dw, lg, cb), (rm, nI X, nI Y, nI WW, nI HH, ct), (N, co, de, sn), (sa, sb, sd, se), (a0, a1, a2, a3, a4, a5, a6), (b0, b1, b2, b3, b4, b5, b6), (e0, e1, e2, e3, e4, e5, e6), an) r) false 0 0 := by
    intro z
    have z : K (.inl (some (.int (f_rws X Y WW w col dp s HH 0 (((dt, dw, lg, cb), (rm, nI X, nI Y, nI WW, nI HH, ct), (N, co, de, sn), (sa, sb, sd, se), (a0, a1, a2, a3, a4, a5, a6), (b0, b1, b2, b3, b4, b5, b6), (e0, e1, e2, e3, e4, e5, e6), an), 0)).2))) (hC cI (f_rws X Y WW w col dp s HH 0 (((dt, dw, lg, cb), (rm, nI X, nI Y, nI WW, nI HH, ct), (N, co, de, sn), (sa, sb, sd, se), (a0, a1, a2, a3, a4, a5, a6), (b0, b1, b2, b3, b4, b5, b6), (e0, e1, e2, e3, e4, e5, e6), an), 0)).1 r) := by
      simpa only [f_clr, nI_clamp (show X < 2 ^ 31 by omega), nI_clamp (show Y < 2 ^ 31 by omega), nI_clamp (show WW < 2 ^ 31 by omega), nI_clamp (show HH < 2 ^ 31 by omega)] using z
    exact outer HH 0 _ 0 false none (by omega) ⟨rfl, rfl, rfl, rfl⟩ z
  refine zw_sound hc (z_J2 (hd := 96) (hd2 := 67)) 60 0 _ _ _ _ _ _ ?_
  generalize f_clr ((dt, dw, lg, cb), (rm, nI X, nI Y, nI WW, nI HH, ct), (N, co, de, sn), (sa, sb, sd, se), (a0, a1, a2, a3, a4, a5, a6), (b0, b1, b2, b3, b4, b5, b6), (e0, e1, e2, e3, e4, e5, e6), an) w col dp s = zz at hT fin
  simp only [hC, hR] at hT fin
  simp (maxSteps := 4000000) only [zlc, zif0, zf3, D_PT_clear_0, D_PT_clear_1, G_PT_k, E_PT_clear_k, T_PT_isWithin, f_wi_0, znr_wi, T_PT_isDepth, T_PT_isByte, T_SC_hold, T_FR_indexOf, T_PT_clearPlace, rdC_k, CS_PT_k, N_PT_k, hC, hR, Classical.not_not, zw_J2, zk_iconst, zk_bipush, zk_sipush, zk_ldc, zk_ldc_w, zk_aconst_null, zk_iload_n, zk_iload, zk_aload_n, zk_aload, zk_istore_n, zk_istore, zk_astore_n, zk_astore, zk_iinc, zk_iadd, zk_isub, zk_imul, zk_idiv, zk_iand, zk_ior, zk_ixor, zk_ishl, zk_ishr, zk_iushr, zk_i2l, zk_lcmp, zk_dup, zk_pop, zk_dup_x1, zk_dup2, zk_dup_x2, zk_goto, zk_ifCond, zk_if_icmp, zk_tableswitch, zk_getfield, zk_putfield, zk_iaload, zk_iastore, zk_laload, zk_lastore, zk_arraylength, zk_invokestatic, zk_invokevirtual, zk_invokespecial, zk_new, zk_newarray, zk_ireturn, zk_areturn, zk_return_, zi1_k, zi2_k, zr1_k, zri_k, zrii_k, zril_k, zvr_k, zl2_k, zv1_k, zv2_k, zv3_k, zli_k, zlr_k, zob_k, zai_k, zal_k, zfv_k, zlim_k, zlrm_k, zobm_k, zaim_k, zalm_k, zfvm_k, zgetf_k, zput_k, zcal_k, zrv_n, zrv_s, zswT_n, zswT_c, zgo_k, zcc_eq, zcc_ne, zcc_lt, zcc_ge, zcc_gt, zcc_le, zldj_k, zexc_k, znew_k, zial_k, zct_i, zct_l, zct_r, zct_n, zKK_r, zKK_x, znr_i, znr_0, znr_1, znr_v, znr_a, znr_o, znar_i, znar_r, znar_a, zfit_i, zfit_r, zfit_a, zbc, zlit, eq_self, List.getElem?_cons_zero, List.getElem?_cons_succ, List.set_cons_zero, List.set_cons_succ, List.take_succ_cons, List.take_zero, List.drop_succ_cons, List.drop_zero, List.reverse_cons, List.reverse_nil, List.nil_append, List.cons_append, List.append_nil, List.length_cons, List.length_nil, List.map_cons, List.map_nil, List.sum_cons, List.sum_nil, Option.toList_some, Option.toList_none, Nat.zero_add, Nat.add_zero, Bool.or_false, Bool.false_or, Bool.or_true, Bool.true_or, Bool.not_true, Bool.not_false, ge_iff_le, Fin.isValue, Fin.val_zero, Fin.val_one, Fin.val_two, true_and, and_true, true_implies, false_implies, forall_const, if_true, if_false, ite_true, ite_false, reduceIte, reduceCtorEq, true_or, or_true, and_self, implies_true, not_false_eq_true, not_true_eq_false, Nat.le_refl, Nat.zero_le, and_false, false_and, Nat.reduceAdd, Nat.reduceSub, Nat.reduceLT, Nat.reduceLeDiff, Nat.reduceMul, Nat.reduceEqDiff, Int.reduceAdd, Int.reduceNeg, Int.reduceToNat, Int.reduceLE, Int.reduceNatCast, Int.reduceSub, Int.reduceLT, Int.reduceEq, List.replicate_zero, List.replicate_succ, Int.reduceNatCast', Int32.reduceOfInt, Int32.reduceLT, Int32.reduceLE, Int32.reduceAdd, Int32.reduceSub, Int32.reduceMul, Int32.reduceToInt, Int32.reduceToNatClampNeg]
  exact ⟨fun z => ⟨fun y => ⟨fun x => fin (((hT.1 z).1 y).1 x), ((hT.1 z).1 y).2⟩, (hT.1 z).2⟩, hT.2⟩


def g_fc (vs vd cn : Nat → Int32) (w : Int32) (k : Nat) : Int32 := if w = 0 then 0 else if w = 1 then 255 else if w = 2 then vs k else if w = 3 then 255 - vs k else if w = 4 then vd k else if w = 5 then 255 - vd k else if w = 6 then vs 3 else if w = 7 then 255 - vs 3 else if w = 8 then vd 3 else if w = 9 then 255 - vd 3 else if w = 10 then cn k else if w = 11 then 255 - cn k else if w = 12 then cn 3 else if w = 13 then 255 - cn 3 else (if k = 3 then 255 else (if 255 - vd 3 ≤ vs 3 then 255 - vd 3 else vs 3))
def g_MO_factor (m : mSt) (a1 a2 : Int32) : Int32 := match m with
  | ((th, x0, y0, wd, hi), (sc, dt, dw, eq, ea, lg, wm), (ch, de, sn), (si, su, fa, cn), (an, vs, vd)) => g_fc vs vd cn a1 a2.toNatClampNeg
def p_MO_factor (m : mSt) (a1 a2 : Int32) : Prop := match m with
  | ((th, x0, y0, wd, hi), (sc, dt, dw, eq, ea, lg, wm), (ch, de, sn), (si, su, fa, cn), (an, vs, vd)) => vp_in a2 4
def T_MO_factor : ClassId → ClassId → zT := fun cI _ as h K => match as with
  | [.ref 10, .int a1, .int a2] => rdM cI h (fun put m => p_MO_factor m a1 a2 ∧ K (.inl (some (.int (g_MO_factor m a1 a2)))) (put m))
  | _ => False
set_option maxHeartbeats 4000000 in
set_option maxRecDepth 100000 in
theorem C_MO_factor {l : Launch} (hl : l.stackTraces = false) : zC l y_MO_factor (Cond.code y_MO_factor prog_8_method_22_code 3 (some .int) :: wsG) (rmL 1 0 0) zcl true 0 0 T_MO_factor := by
  refine zC_of (G := G_MO) (E := zEn0) (X := zXn) (SL := zSn) (NW := zNn) (CS := zCn) (ctor := false) hl (by decide) rfl rfl rfl G_MO_ok (fun z => by cases z) (fun _ _ z => by cases z) (fun _ _ _ _ z => by cases z) (List.mem_cons_of_mem _ ka_i) (fun _ _ _ z => by cases z) (fun _ z => by cases z) (fun _ _ _ _ _ _ _ _ _ _ _ _ _ _ _ _ _ _ _ _ _ _ _ z => by cases z) ?_
  intro cI cL as h K hT
  match as, hT with
  | [.ref 10, .int a1, .int a2], hT =>
  obtain ⟨P, ⟨⟨th, x0, y0, wd, hi⟩, ⟨sc, dt, dw, eq, ea, lg, wm⟩, ⟨ch, de, sn⟩, ⟨si, su, fa, cn⟩, ⟨an, vs, vd⟩⟩, r, rfl, hp, hU⟩ := hT
  replace hT := hU
  clear hU
  refine ⟨by simp [Value.category], by simp, fun Jd hc => zw_sound (J := fun _ => none) hc (fun _ _ z => by cases z) 111 0 _ _ _ _ _ _ ?_⟩
  simp (maxSteps := 4000000) only [zlc, zif0, zf3, D_MO_factor_0, D_MO_factor_1, G_MO_k, hM, hMc, hP_g, hP_s, hP_l, rdM_k, zvi, zti, Classical.not_not, zw_S, zk_iconst, zk_bipush, zk_sipush, zk_ldc, zk_ldc_w, zk_aconst_null, zk_iload_n, zk_iload, zk_aload_n, zk_aload, zk_istore_n, zk_istore, zk_astore_n, zk_astore, zk_iinc, zk_iadd, zk_isub, zk_imul, zk_idiv, zk_iand, zk_ior, zk_ixor, zk_ishl, zk_ishr, zk_iushr, zk_i2l, zk_lcmp, zk_dup, zk_pop, zk_dup_x1, zk_dup2, zk_dup_x2, zk_goto, zk_ifCond, zk_if_icmp, zk_tableswitch, zk_getfield, zk_putfield, zk_iaload, zk_iastore, zk_laload, zk_lastore, zk_arraylength, zk_invokestatic, zk_invokevirtual, zk_invokespecial, zk_new, zk_newarray, zk_ireturn, zk_areturn, zk_return_, zi1_k, zi2_k, zr1_k, zri_k, zrii_k, zril_k, zvr_k, zl2_k, zv1_k, zv2_k, zv3_k, zli_k, zlr_k, zob_k, zai_k, zal_k, zfv_k, zlim_k, zlrm_k, zobm_k, zaim_k, zalm_k, zfvm_k, zgetf_k, zput_k, zcal_k, zrv_n, zrv_s, zswT_n, zswT_c, zgo_k, zcc_eq, zcc_ne, zcc_lt, zcc_ge, zcc_gt, zcc_le, zldj_k, zexc_k, znew_k, zial_k, zct_i, zct_l, zct_r, zct_n, zKK_r, zKK_x, znr_i, znr_0, znr_1, znr_v, znr_a, znr_o, znar_i, znar_r, znar_a, zfit_i, zfit_r, zfit_a, zbc, zlit, eq_self, List.getElem?_cons_zero, List.getElem?_cons_succ, List.set_cons_zero, List.set_cons_succ, List.take_succ_cons, List.take_zero, List.drop_succ_cons, List.drop_zero, List.reverse_cons, List.reverse_nil, List.nil_append, List.cons_append, List.append_nil, List.length_cons, List.length_nil, List.map_cons, List.map_nil, List.sum_cons, List.sum_nil, Option.toList_some, Option.toList_none, Nat.zero_add, Nat.add_zero, Bool.or_false, Bool.false_or, Bool.or_true, Bool.true_or, Bool.not_true, Bool.not_false, ge_iff_le, Fin.isValue, Fin.val_zero, Fin.val_one, Fin.val_two, true_and, and_true, true_implies, false_implies, forall_const, if_true, if_false, ite_true, ite_false, reduceIte, reduceCtorEq, true_or, or_true, and_self, implies_true, not_false_eq_true, not_true_eq_false, Nat.le_refl, Nat.zero_le, and_false, false_and, Nat.reduceAdd, Nat.reduceSub, Nat.reduceLT, Nat.reduceLeDiff, Nat.reduceMul, Nat.reduceEqDiff, Int.reduceAdd, Int.reduceNeg, Int.reduceToNat, Int.reduceLE, Int.reduceNatCast, Int.reduceSub, Int.reduceLT, Int.reduceEq, List.replicate_zero, List.replicate_succ, Int.reduceNatCast', Int32.reduceOfInt, Int32.reduceLT, Int32.reduceLE, Int32.reduceAdd, Int32.reduceSub, Int32.reduceMul, Int32.reduceToInt, Int32.reduceToNatClampNeg]
  have hp : vp_in a2 4 := hp
  replace hT : K (.inl (some (.int (g_fc vs vd cn a1 a2.toNatClampNeg)))) (hM cI P ((th, x0, y0, wd, hi), (sc, dt, dw, eq, ea, lg, wm), (ch, de, sn), (si, su, fa, cn), (an, vs, vd)) r) := hT
  have k3 : (a2.toNatClampNeg = 3) = (a2 = 3) := by
    obtain ⟨j, hj, rfl⟩ := vp_in_of hp (by decide)
    rw [nI_clamp (by omega), show (3 : Int32) = nI 3 from rfl, nI_eq (by omega) (by decide)]
  simp only [g_fc, k3, zKi K] at hT
  simp only [hM, hMc] at hT
  simp only [hp, true_and]
  refine ⟨hT.1, fun z => ⟨(hT.2 z).1, fun z1 => ⟨((hT.2 z).2 z1).1, fun z2 => ?_⟩⟩⟩
  have hT := ((hT.2 z).2 z1).2 z2
  refine ⟨hT.1, fun z => ⟨(hT.2 z).1, fun z1 => ⟨((hT.2 z).2 z1).1, fun z2 => ?_⟩⟩⟩
  have hT := ((hT.2 z).2 z1).2 z2
  refine ⟨hT.1, fun z => ⟨(hT.2 z).1, fun z1 => ⟨((hT.2 z).2 z1).1, fun z2 => ?_⟩⟩⟩
  have hT := ((hT.2 z).2 z1).2 z2
  refine ⟨hT.1, fun z => ⟨(hT.2 z).1, fun z1 => ⟨((hT.2 z).2 z1).1, fun z2 => ?_⟩⟩⟩
  have hT := ((hT.2 z).2 z1).2 z2
  exact ⟨hT.1, fun z => ⟨(hT.2 z).1, fun z1 => ⟨fun w => ((hT.2 z).2 z1).2 w, fun w => ((hT.2 z).2 z1).1 w⟩⟩⟩
def g_b2 (vs vd cn : Nat → Int32) (fs fd how : Int32) (k : Nat) : Int32 := if how = 0 then g_nr (vs k * g_fc vs vd cn fs k + vd k * g_fc vs vd cn fd k) else if how = 1 then g_nr (vs k * g_fc vs vd cn fs k - vd k * g_fc vs vd cn fd k) else if how = 2 then g_nr (vd k * g_fc vs vd cn fd k - vs k * g_fc vs vd cn fs k) else if how = 3 then (if vd k ≤ vs k then vd k else vs k) else (if vs k ≤ vd k then vd k else vs k)
def g_bl (vs vd cn fa : Nat → Int32) (eq ea : Int32) (k : Nat) : Int32 := if k = 3 then g_b2 vs vd cn (fa 2) (fa 3) ea k else g_b2 vs vd cn (fa 0) (fa 1) eq k
def g_MO_blended (m : mSt) (a1 : Int32) : Int32 := match m with
  | ((th, x0, y0, wd, hi), (sc, dt, dw, eq, ea, lg, wm), (ch, de, sn), (si, su, fa, cn), (an, vs, vd)) => g_bl vs vd cn fa eq ea a1.toNatClampNeg
def p_MO_blended (m : mSt) (a1 : Int32) : Prop := match m with
  | ((th, x0, y0, wd, hi), (sc, dt, dw, eq, ea, lg, wm), (ch, de, sn), (si, su, fa, cn), (an, vs, vd)) => vp_in a1 4
def T_MO_blended : ClassId → ClassId → zT := fun cI _ as h K => match as with
  | [.ref 10, .int a1] => rdM cI h (fun put m => p_MO_blended m a1 ∧ K (.inl (some (.int (g_MO_blended m a1)))) (put m))
  | _ => False
def E_MO_blended : ClassId → ClassId → Nat → Nat → Option zEn := fun cI cL kd i => match kd, i with
  | 1, 108 => some (3, some 5, true, true, 0, 0, T_MO_factor cI cL)
  | 0, 111 => some (1, none, true, true, 0, 0, T_MO_nearest cI cL)
  | _, _ => none
theorem E_MO_blended_k : (∀ cI cL, E_MO_blended cI cL 1 108 = some (3, some 5, true, true, 0, 0, T_MO_factor cI cL)) ∧ (∀ cI cL, E_MO_blended cI cL 0 111 = some (1, none, true, true, 0, 0, T_MO_nearest cI cL)) := ⟨fun _ _ => rfl, fun _ _ => rfl⟩
set_option maxHeartbeats 4000000 in
set_option maxRecDepth 100000 in
theorem C_MO_blended {l : Launch} (hl : l.stackTraces = false) : zC l y_MO_blended (Cond.code y_MO_blended prog_8_method_24_code 6 (some .int) :: wsG) (rmL 2 0 0) zcl true 0 0 T_MO_blended := by
  refine zC_of (G := G_MO) (E := E_MO_blended) (X := zXn) (SL := zSn) (NW := zNn) (CS := zCn) (ctor := false) hl (by decide) rfl rfl rfl G_MO_ok (fun z => by cases z) (fun _ _ z => by cases z) (fun _ _ _ _ z => by cases z) (List.mem_cons_of_mem _ ka_i) (fun _ _ _ z => by cases z) (fun _ z => by cases z) (by
    intro p e s m args below meth c D A cI cL hx hb hml hown hts hK hA hEX kd idx en hE
    unfold E_MO_blended at hE
    split at hE
    · cases hE; exact zRow_V (C_MO_factor hl) rfl (Or.inl ⟨_, _, rfl⟩) hx hb hml hown hts hK hA hEX (hin_c kb_MO_factor) (List.mem_cons_of_mem _ kn_MO) (List.mem_cons_of_mem _ ki_MO_factor) (List.mem_cons_of_mem _ kv_MO_factor) rfl (Or.inl (List.mem_cons_of_mem _ km_MO_108)) (by decide) (by decide) (by decide) rfl rfl
    · cases hE; exact zRow_S (C_MO_nearest hl) rfl (Or.inl ⟨_, _, rfl⟩) hx hb hml hown hts hK hA hEX (hin_c kb_MO_nearest) (List.mem_cons_of_mem _ kn_MO) (List.mem_cons_of_mem _ ks_MO_nearest) (Or.inl (List.mem_cons_of_mem _ km_MO_111)) (by decide) (by decide) (by decide) rfl rfl
    · cases hE) ?_
  intro cI cL as h K hT
  match as, hT with
  | [.ref 10, .int a1], hT =>
  obtain ⟨P, ⟨⟨th, x0, y0, wd, hi⟩, ⟨sc, dt, dw, eq, ea, lg, wm⟩, ⟨ch, de, sn⟩, ⟨si, su, fa, cn⟩, ⟨an, vs, vd⟩⟩, r, rfl, hp, hU⟩ := hT
  replace hT := hU
  clear hU
  have hp : vp_in a1 4 := hp
  replace hT : K (.inl (some (.int (g_bl vs vd cn fa eq ea a1.toNatClampNeg)))) (hM cI P ((th, x0, y0, wd, hi), (sc, dt, dw, eq, ea, lg, wm), (ch, de, sn), (si, su, fa, cn), (an, vs, vd)) r) := hT
  have k3 : (a1.toNatClampNeg = 3) = (a1 = 3) := by
    obtain ⟨j, hj, rfl⟩ := vp_in_of hp (by decide)
    rw [nI_clamp (by omega), show (3 : Int32) = nI 3 from rfl, nI_eq (by omega) (by decide)]
  refine ⟨by simp [Value.category], by simp, fun Jd hc => zw_sound (J := fun _ => none) hc (fun _ _ z => by cases z) 80 0 _ _ _ _ _ _ ?_⟩
  by_cases z : a1 = 3
  · subst z
    simp only [g_bl, Int32.reduceToNatClampNeg, eq_self, if_true, g_b2, zKi K] at hT
    simp only [hM, hMc] at hT
    simp (maxSteps := 4000000) only [zlc, zif0, zf3, D_MO_blended_0, D_MO_blended_1, G_MO_k, E_MO_blended_k, T_MO_factor, g_MO_factor, p_MO_factor, T_MO_nearest, hM, hMc, hP_g, hP_s, hP_l, rdM_k, zvi, zti, Classical.not_not, zw_S, zk_iconst, zk_bipush, zk_sipush, zk_ldc, zk_ldc_w, zk_aconst_null, zk_iload_n, zk_iload, zk_aload_n, zk_aload, zk_istore_n, zk_istore, zk_astore_n, zk_astore, zk_iinc, zk_iadd, zk_isub, zk_imul, zk_idiv, zk_iand, zk_ior, zk_ixor, zk_ishl, zk_ishr, zk_iushr, zk_i2l, zk_lcmp, zk_dup, zk_pop, zk_dup_x1, zk_dup2, zk_dup_x2, zk_goto, zk_ifCond, zk_if_icmp, zk_tableswitch, zk_getfield, zk_putfield, zk_iaload, zk_iastore, zk_laload, zk_lastore, zk_arraylength, zk_invokestatic, zk_invokevirtual, zk_invokespecial, zk_new, zk_newarray, zk_ireturn, zk_areturn, zk_return_, zi1_k, zi2_k, zr1_k, zri_k, zrii_k, zril_k, zvr_k, zl2_k, zv1_k, zv2_k, zv3_k, zli_k, zlr_k, zob_k, zai_k, zal_k, zfv_k, zlim_k, zlrm_k, zobm_k, zaim_k, zalm_k, zfvm_k, zgetf_k, zput_k, zcal_k, zrv_n, zrv_s, zswT_n, zswT_c, zgo_k, zcc_eq, zcc_ne, zcc_lt, zcc_ge, zcc_gt, zcc_le, zldj_k, zexc_k, znew_k, zial_k, zct_i, zct_l, zct_r, zct_n, zKK_r, zKK_x, znr_i, znr_0, znr_1, znr_v, znr_a, znr_o, znar_i, znar_r, znar_a, zfit_i, zfit_r, zfit_a, zbc, zlit, eq_self, List.getElem?_cons_zero, List.getElem?_cons_succ, List.set_cons_zero, List.set_cons_succ, List.take_succ_cons, List.take_zero, List.drop_succ_cons, List.drop_zero, List.reverse_cons, List.reverse_nil, List.nil_append, List.cons_append, List.append_nil, List.length_cons, List.length_nil, List.map_cons, List.map_nil, List.sum_cons, List.sum_nil, Option.toList_some, Option.toList_none, Nat.zero_add, Nat.add_zero, Bool.or_false, Bool.false_or, Bool.or_true, Bool.true_or, Bool.not_true, Bool.not_false, ge_iff_le, Fin.isValue, Fin.val_zero, Fin.val_one, Fin.val_two, true_and, and_true, true_implies, false_implies, forall_const, if_true, if_false, ite_true, ite_false, reduceIte, reduceCtorEq, true_or, or_true, and_self, implies_true, not_false_eq_true, not_true_eq_false, Nat.le_refl, Nat.zero_le, and_false, false_and, Nat.reduceAdd, Nat.reduceSub, Nat.reduceLT, Nat.reduceLeDiff, Nat.reduceMul, Nat.reduceEqDiff, Int.reduceAdd, Int.reduceNeg, Int.reduceToNat, Int.reduceLE, Int.reduceNatCast, Int.reduceSub, Int.reduceLT, Int.reduceEq, List.replicate_zero, List.replicate_succ, Int.reduceNatCast', Int32.reduceOfInt, Int32.reduceLT, Int32.reduceLE, Int32.reduceAdd, Int32.reduceSub, Int32.reduceMul, Int32.reduceToInt, Int32.reduceToNatClampNeg]
    exact hT
  · simp only [g_bl, k3, z, if_false, g_b2, zKi K] at hT
    simp only [hM, hMc] at hT
    simp (maxSteps := 4000000) only [z, hp, zlc, zif0, zf3, D_MO_blended_0, D_MO_blended_1, G_MO_k, E_MO_blended_k, T_MO_factor, g_MO_factor, p_MO_factor, T_MO_nearest, hM, hMc, hP_g, hP_s, hP_l, rdM_k, zvi, zti, Classical.not_not, zw_S, zk_iconst, zk_bipush, zk_sipush, zk_ldc, zk_ldc_w, zk_aconst_null, zk_iload_n, zk_iload, zk_aload_n, zk_aload, zk_istore_n, zk_istore, zk_astore_n, zk_astore, zk_iinc, zk_iadd, zk_isub, zk_imul, zk_idiv, zk_iand, zk_ior, zk_ixor, zk_ishl, zk_ishr, zk_iushr, zk_i2l, zk_lcmp, zk_dup, zk_pop, zk_dup_x1, zk_dup2, zk_dup_x2, zk_goto, zk_ifCond, zk_if_icmp, zk_tableswitch, zk_getfield, zk_putfield, zk_iaload, zk_iastore, zk_laload, zk_lastore, zk_arraylength, zk_invokestatic, zk_invokevirtual, zk_invokespecial, zk_new, zk_newarray, zk_ireturn, zk_areturn, zk_return_, zi1_k, zi2_k, zr1_k, zri_k, zrii_k, zril_k, zvr_k, zl2_k, zv1_k, zv2_k, zv3_k, zli_k, zlr_k, zob_k, zai_k, zal_k, zfv_k, zlim_k, zlrm_k, zobm_k, zaim_k, zalm_k, zfvm_k, zgetf_k, zput_k, zcal_k, zrv_n, zrv_s, zswT_n, zswT_c, zgo_k, zcc_eq, zcc_ne, zcc_lt, zcc_ge, zcc_gt, zcc_le, zldj_k, zexc_k, znew_k, zial_k, zct_i, zct_l, zct_r, zct_n, zKK_r, zKK_x, znr_i, znr_0, znr_1, znr_v, znr_a, znr_o, znar_i, znar_r, znar_a, zfit_i, zfit_r, zfit_a, zbc, zlit, eq_self, List.getElem?_cons_zero, List.getElem?_cons_succ, List.set_cons_zero, List.set_cons_succ, List.take_succ_cons, List.take_zero, List.drop_succ_cons, List.drop_zero, List.reverse_cons, List.reverse_nil, List.nil_append, List.cons_append, List.append_nil, List.length_cons, List.length_nil, List.map_cons, List.map_nil, List.sum_cons, List.sum_nil, Option.toList_some, Option.toList_none, Nat.zero_add, Nat.add_zero, Bool.or_false, Bool.false_or, Bool.or_true, Bool.true_or, Bool.not_true, Bool.not_false, ge_iff_le, Fin.isValue, Fin.val_zero, Fin.val_one, Fin.val_two, true_and, and_true, true_implies, false_implies, forall_const, if_true, if_false, ite_true, ite_false, reduceIte, reduceCtorEq, true_or, or_true, and_self, implies_true, not_false_eq_true, not_true_eq_false, Nat.le_refl, Nat.zero_le, and_false, false_and, Nat.reduceAdd, Nat.reduceSub, Nat.reduceLT, Nat.reduceLeDiff, Nat.reduceMul, Nat.reduceEqDiff, Int.reduceAdd, Int.reduceNeg, Int.reduceToNat, Int.reduceLE, Int.reduceNatCast, Int.reduceSub, Int.reduceLT, Int.reduceEq, List.replicate_zero, List.replicate_succ, Int.reduceNatCast', Int32.reduceOfInt, Int32.reduceLT, Int32.reduceLE, Int32.reduceAdd, Int32.reduceSub, Int32.reduceMul, Int32.reduceToInt, Int32.reduceToNatClampNeg]
    exact hT

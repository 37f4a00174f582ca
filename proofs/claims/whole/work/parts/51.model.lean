def g_MO_thrown (m : mSt) : Int32 := match m with
  | ((th, x0, y0, wd, hi), (sc, dt, dw, eq, ea, lg, wm), (ch, de, sn), (si, su, fa, cn), (an, vs, vd)) => th
def T_MO_thrown : ClassId → ClassId → zT := fun cI _ as h K => match as with
  | [.ref 10] => rdM cI h (fun put m => K (.inl (some (.int (g_MO_thrown m)))) (put m))
  | _ => False
set_option maxHeartbeats 4000000 in
set_option maxRecDepth 100000 in
theorem C_MO_thrown {l : Launch} (hl : l.stackTraces = false) : zC l y_MO_thrown (Cond.code y_MO_thrown prog_8_method_2_code 1 (some .int) :: wsG) (rmL 1 0 0) zcl true 0 0 T_MO_thrown := by
  refine zC_of (G := G_MO) (E := zEn0) (X := zXn) (SL := zSn) (NW := zNn) (CS := zCn) (ctor := false) hl (by decide) rfl rfl rfl G_MO_ok (fun z => by cases z) (fun _ _ z => by cases z) (fun _ _ _ _ z => by cases z) (List.mem_cons_of_mem _ ka_i) (fun _ _ _ z => by cases z) (fun _ z => by cases z) (fun _ _ _ _ _ _ _ _ _ _ _ _ _ _ _ _ _ _ _ _ _ _ _ z => by cases z) ?_
  intro cI cL as h K hT
  match as, hT with
  | [.ref 10], hT =>
  obtain ⟨P, ⟨⟨th, x0, y0, wd, hi⟩, ⟨sc, dt, dw, eq, ea, lg, wm⟩, ⟨ch, de, sn⟩, ⟨si, su, fa, cn⟩, ⟨an, vs, vd⟩⟩, r, rfl, hU⟩ := hT
  replace hT := hU
  clear hU
  refine ⟨by simp [Value.category], by simp, fun Jd hc => zw_sound (J := fun _ => none) hc (fun _ _ z => by cases z) 8 0 _ _ _ _ _ _ ?_⟩
  simp (maxSteps := 4000000) only [zlc, zif0, zf3, D_MO_thrown, G_MO_k, hM, hMc, hP_g, hP_s, hP_l, rdM_k, zvi, Classical.not_not, zw_S, zk_iconst, zk_bipush, zk_sipush, zk_ldc, zk_ldc_w, zk_aconst_null, zk_iload_n, zk_iload, zk_aload_n, zk_aload, zk_istore_n, zk_istore, zk_astore_n, zk_astore, zk_iinc, zk_iadd, zk_isub, zk_imul, zk_idiv, zk_iand, zk_ior, zk_ixor, zk_ishl, zk_ishr, zk_iushr, zk_i2l, zk_lcmp, zk_dup, zk_pop, zk_dup_x1, zk_dup2, zk_dup_x2, zk_goto, zk_ifCond, zk_if_icmp, zk_tableswitch, zk_getfield, zk_putfield, zk_iaload, zk_iastore, zk_laload, zk_lastore, zk_arraylength, zk_invokestatic, zk_invokevirtual, zk_invokespecial, zk_new, zk_newarray, zk_ireturn, zk_areturn, zk_return_, zi1_k, zi2_k, zr1_k, zri_k, zrii_k, zril_k, zvr_k, zl2_k, zv1_k, zv2_k, zv3_k, zli_k, zlr_k, zob_k, zai_k, zal_k, zfv_k, zlim_k, zlrm_k, zobm_k, zaim_k, zalm_k, zfvm_k, zgetf_k, zput_k, zcal_k, zrv_n, zrv_s, zswT_n, zswT_c, zgo_k, zcc_eq, zcc_ne, zcc_lt, zcc_ge, zcc_gt, zcc_le, zldj_k, zexc_k, znew_k, zial_k, zct_i, zct_l, zct_r, zct_n, zKK_r, zKK_x, znr_i, znr_0, znr_1, znr_v, znr_a, znr_o, znar_i, znar_r, znar_a, zfit_i, zfit_r, zfit_a, zbc, zlit, eq_self, List.getElem?_cons_zero, List.getElem?_cons_succ, List.set_cons_zero, List.set_cons_succ, List.take_succ_cons, List.take_zero, List.drop_succ_cons, List.drop_zero, List.reverse_cons, List.reverse_nil, List.nil_append, List.cons_append, List.append_nil, List.length_cons, List.length_nil, List.map_cons, List.map_nil, List.sum_cons, List.sum_nil, Option.toList_some, Option.toList_none, Nat.zero_add, Nat.add_zero, Bool.or_false, Bool.false_or, Bool.or_true, Bool.true_or, Bool.not_true, Bool.not_false, ge_iff_le, Fin.isValue, Fin.val_zero, Fin.val_one, Fin.val_two, true_and, and_true, true_implies, false_implies, forall_const, if_true, if_false, ite_true, ite_false, reduceIte, reduceCtorEq, true_or, or_true, and_self, implies_true, not_false_eq_true, not_true_eq_false, Nat.le_refl, Nat.zero_le, and_false, false_and, Nat.reduceAdd, Nat.reduceSub, Nat.reduceLT, Nat.reduceLeDiff, Nat.reduceMul, Nat.reduceEqDiff, Int.reduceAdd, Int.reduceNeg, Int.reduceToNat, Int.reduceLE, Int.reduceNatCast, Int.reduceSub, Int.reduceLT, Int.reduceEq, List.replicate_zero, List.replicate_succ, Int.reduceNatCast', Int32.reduceOfInt, Int32.reduceLT, Int32.reduceLE, Int32.reduceAdd, Int32.reduceSub, Int32.reduceMul, Int32.reduceToInt, Int32.reduceToNatClampNeg]
  replace hT : K (.inl (some (.int (g_MO_thrown ((th, x0, y0, wd, hi), (sc, dt, dw, eq, ea, lg, wm), (ch, de, sn), (si, su, fa, cn), (an, vs, vd)))))) (hM cI P ((th, x0, y0, wd, hi), (sc, dt, dw, eq, ea, lg, wm), (ch, de, sn), (si, su, fa, cn), (an, vs, vd)) r) := hT
  simp only [g_MO_thrown, zKi K, Classical.not_not, hM, hMc] at hT
  exact hT
def g_MO_isInFrame (m : mSt) (x y : Int32) : Int32 := match m with
  | ((th, x0, y0, wd, hi), (sc, dt, dw, eq, ea, lg, wm), (ch, de, sn), (si, su, fa, cn), (an, vs, vd)) => f_has x0 y0 wd hi x y
def T_MO_isInFrame : ClassId → ClassId → zT := fun cI _ as h K => match as with
  | [.ref 10, .int x, .int y] => rdM cI h (fun put m => K (.inl (some (.int (g_MO_isInFrame m x y)))) (put m))
  | _ => False
set_option maxHeartbeats 4000000 in
set_option maxRecDepth 100000 in
theorem C_MO_isInFrame {l : Launch} (hl : l.stackTraces = false) : zC l y_MO_isInFrame (Cond.code y_MO_isInFrame prog_8_method_13_code 3 (some .boolean) :: wsG) (rmL 1 0 0) zcl true 0 0 T_MO_isInFrame := by
  refine zC_of (G := G_MO) (E := zEn0) (X := zXn) (SL := zSn) (NW := zNn) (CS := zCn) (ctor := false) hl (by decide) rfl rfl rfl G_MO_ok (fun z => by cases z) (fun _ _ z => by cases z) (fun _ _ _ _ z => by cases z) (List.mem_cons_of_mem _ ka_i) (fun _ _ _ z => by cases z) (fun _ z => by cases z) (fun _ _ _ _ _ _ _ _ _ _ _ _ _ _ _ _ _ _ _ _ _ _ _ z => by cases z) ?_
  intro cI cL as h K hT
  match as, hT with
  | [.ref 10, .int x, .int y], hT =>
  obtain ⟨P, ⟨⟨th, x0, y0, wd, hi⟩, ⟨sc, dt, dw, eq, ea, lg, wm⟩, ⟨ch, de, sn⟩, ⟨si, su, fa, cn⟩, ⟨an, vs, vd⟩⟩, r, rfl, hU⟩ := hT
  replace hT := hU
  clear hU
  refine ⟨by simp [Value.category], by simp, fun Jd hc => zw_sound (J := fun _ => none) hc (fun _ _ z => by cases z) 31 0 _ _ _ _ _ _ ?_⟩
  simp (maxSteps := 4000000) only [zlc, zif0, zf3, D_MO_isInFrame, G_MO_k, hM, hMc, hP_g, hP_s, hP_l, rdM_k, zvi, Classical.not_not, zw_S, zk_iconst, zk_bipush, zk_sipush, zk_ldc, zk_ldc_w, zk_aconst_null, zk_iload_n, zk_iload, zk_aload_n, zk_aload, zk_istore_n, zk_istore, zk_astore_n, zk_astore, zk_iinc, zk_iadd, zk_isub, zk_imul, zk_idiv, zk_iand, zk_ior, zk_ixor, zk_ishl, zk_ishr, zk_iushr, zk_i2l, zk_lcmp, zk_dup, zk_pop, zk_dup_x1, zk_dup2, zk_dup_x2, zk_goto, zk_ifCond, zk_if_icmp, zk_tableswitch, zk_getfield, zk_putfield, zk_iaload, zk_iastore, zk_laload, zk_lastore, zk_arraylength, zk_invokestatic, zk_invokevirtual, zk_invokespecial, zk_new, zk_newarray, zk_ireturn, zk_areturn, zk_return_, zi1_k, zi2_k, zr1_k, zri_k, zrii_k, zril_k, zvr_k, zl2_k, zv1_k, zv2_k, zv3_k, zli_k, zlr_k, zob_k, zai_k, zal_k, zfv_k, zlim_k, zlrm_k, zobm_k, zaim_k, zalm_k, zfvm_k, zgetf_k, zput_k, zcal_k, zrv_n, zrv_s, zswT_n, zswT_c, zgo_k, zcc_eq, zcc_ne, zcc_lt, zcc_ge, zcc_gt, zcc_le, zldj_k, zexc_k, znew_k, zial_k, zct_i, zct_l, zct_r, zct_n, zKK_r, zKK_x, znr_i, znr_0, znr_1, znr_v, znr_a, znr_o, znar_i, znar_r, znar_a, zfit_i, zfit_r, zfit_a, zbc, zlit, eq_self, List.getElem?_cons_zero, List.getElem?_cons_succ, List.set_cons_zero, List.set_cons_succ, List.take_succ_cons, List.take_zero, List.drop_succ_cons, List.drop_zero, List.reverse_cons, List.reverse_nil, List.nil_append, List.cons_append, List.append_nil, List.length_cons, List.length_nil, List.map_cons, List.map_nil, List.sum_cons, List.sum_nil, Option.toList_some, Option.toList_none, Nat.zero_add, Nat.add_zero, Bool.or_false, Bool.false_or, Bool.or_true, Bool.true_or, Bool.not_true, Bool.not_false, ge_iff_le, Fin.isValue, Fin.val_zero, Fin.val_one, Fin.val_two, true_and, and_true, true_implies, false_implies, forall_const, if_true, if_false, ite_true, ite_false, reduceIte, reduceCtorEq, true_or, or_true, and_self, implies_true, not_false_eq_true, not_true_eq_false, Nat.le_refl, Nat.zero_le, and_false, false_and, Nat.reduceAdd, Nat.reduceSub, Nat.reduceLT, Nat.reduceLeDiff, Nat.reduceMul, Nat.reduceEqDiff, Int.reduceAdd, Int.reduceNeg, Int.reduceToNat, Int.reduceLE, Int.reduceNatCast, Int.reduceSub, Int.reduceLT, Int.reduceEq, List.replicate_zero, List.replicate_succ, Int.reduceNatCast', Int32.reduceOfInt, Int32.reduceLT, Int32.reduceLE, Int32.reduceAdd, Int32.reduceSub, Int32.reduceMul, Int32.reduceToInt, Int32.reduceToNatClampNeg]
  repeat' (first | (intro _) | (apply And.intro))
  all_goals (first | exact hT | (simp only [g_MO_isInFrame, f_has, hM, hMc, *, if_true, if_false, reduceIte, not_true_eq_false, not_false_eq_true] at hT; exact hT) | (simp [g_MO_isInFrame, f_has, hM, hMc, *] at hT; exact hT) | (simp [g_MO_isInFrame, f_has, hM, hMc, *] at hT ⊢; exact hT) | (simp_all [g_MO_isInFrame, f_has, hM, hMc]; done))
def g_MO_placeOf (m : mSt) (x y : Int32) : Int32 := match m with
  | ((th, x0, y0, wd, hi), (sc, dt, dw, eq, ea, lg, wm), (ch, de, sn), (si, su, fa, cn), (an, vs, vd)) => (y - y0) * wd + x - x0
def T_MO_placeOf : ClassId → ClassId → zT := fun cI _ as h K => match as with
  | [.ref 10, .int x, .int y] => rdM cI h (fun put m => K (.inl (some (.int (g_MO_placeOf m x y)))) (put m))
  | _ => False
set_option maxHeartbeats 4000000 in
set_option maxRecDepth 100000 in
theorem C_MO_placeOf {l : Launch} (hl : l.stackTraces = false) : zC l y_MO_placeOf (Cond.code y_MO_placeOf prog_8_method_15_code 3 (some .int) :: wsG) (rmL 1 0 0) zcl true 0 0 T_MO_placeOf := by
  refine zC_of (G := G_MO) (E := zEn0) (X := zXn) (SL := zSn) (NW := zNn) (CS := zCn) (ctor := false) hl (by decide) rfl rfl rfl G_MO_ok (fun z => by cases z) (fun _ _ z => by cases z) (fun _ _ _ _ z => by cases z) (List.mem_cons_of_mem _ ka_i) (fun _ _ _ z => by cases z) (fun _ z => by cases z) (fun _ _ _ _ _ _ _ _ _ _ _ _ _ _ _ _ _ _ _ _ _ _ _ z => by cases z) ?_
  intro cI cL as h K hT
  match as, hT with
  | [.ref 10, .int x, .int y], hT =>
  obtain ⟨P, ⟨⟨th, x0, y0, wd, hi⟩, ⟨sc, dt, dw, eq, ea, lg, wm⟩, ⟨ch, de, sn⟩, ⟨si, su, fa, cn⟩, ⟨an, vs, vd⟩⟩, r, rfl, hU⟩ := hT
  replace hT := hU
  clear hU
  refine ⟨by simp [Value.category], by simp, fun Jd hc => zw_sound (J := fun _ => none) hc (fun _ _ z => by cases z) 18 0 _ _ _ _ _ _ ?_⟩
  simp (maxSteps := 4000000) only [zlc, zif0, zf3, D_MO_placeOf, G_MO_k, hM, hMc, hP_g, hP_s, hP_l, rdM_k, zvi, Classical.not_not, zw_S, zk_iconst, zk_bipush, zk_sipush, zk_ldc, zk_ldc_w, zk_aconst_null, zk_iload_n, zk_iload, zk_aload_n, zk_aload, zk_istore_n, zk_istore, zk_astore_n, zk_astore, zk_iinc, zk_iadd, zk_isub, zk_imul, zk_idiv, zk_iand, zk_ior, zk_ixor, zk_ishl, zk_ishr, zk_iushr, zk_i2l, zk_lcmp, zk_dup, zk_pop, zk_dup_x1, zk_dup2, zk_dup_x2, zk_goto, zk_ifCond, zk_if_icmp, zk_tableswitch, zk_getfield, zk_putfield, zk_iaload, zk_iastore, zk_laload, zk_lastore, zk_arraylength, zk_invokestatic, zk_invokevirtual, zk_invokespecial, zk_new, zk_newarray, zk_ireturn, zk_areturn, zk_return_, zi1_k, zi2_k, zr1_k, zri_k, zrii_k, zril_k, zvr_k, zl2_k, zv1_k, zv2_k, zv3_k, zli_k, zlr_k, zob_k, zai_k, zal_k, zfv_k, zlim_k, zlrm_k, zobm_k, zaim_k, zalm_k, zfvm_k, zgetf_k, zput_k, zcal_k, zrv_n, zrv_s, zswT_n, zswT_c, zgo_k, zcc_eq, zcc_ne, zcc_lt, zcc_ge, zcc_gt, zcc_le, zldj_k, zexc_k, znew_k, zial_k, zct_i, zct_l, zct_r, zct_n, zKK_r, zKK_x, znr_i, znr_0, znr_1, znr_v, znr_a, znr_o, znar_i, znar_r, znar_a, zfit_i, zfit_r, zfit_a, zbc, zlit, eq_self, List.getElem?_cons_zero, List.getElem?_cons_succ, List.set_cons_zero, List.set_cons_succ, List.take_succ_cons, List.take_zero, List.drop_succ_cons, List.drop_zero, List.reverse_cons, List.reverse_nil, List.nil_append, List.cons_append, List.append_nil, List.length_cons, List.length_nil, List.map_cons, List.map_nil, List.sum_cons, List.sum_nil, Option.toList_some, Option.toList_none, Nat.zero_add, Nat.add_zero, Bool.or_false, Bool.false_or, Bool.or_true, Bool.true_or, Bool.not_true, Bool.not_false, ge_iff_le, Fin.isValue, Fin.val_zero, Fin.val_one, Fin.val_two, true_and, and_true, true_implies, false_implies, forall_const, if_true, if_false, ite_true, ite_false, reduceIte, reduceCtorEq, true_or, or_true, and_self, implies_true, not_false_eq_true, not_true_eq_false, Nat.le_refl, Nat.zero_le, and_false, false_and, Nat.reduceAdd, Nat.reduceSub, Nat.reduceLT, Nat.reduceLeDiff, Nat.reduceMul, Nat.reduceEqDiff, Int.reduceAdd, Int.reduceNeg, Int.reduceToNat, Int.reduceLE, Int.reduceNatCast, Int.reduceSub, Int.reduceLT, Int.reduceEq, List.replicate_zero, List.replicate_succ, Int.reduceNatCast', Int32.reduceOfInt, Int32.reduceLT, Int32.reduceLE, Int32.reduceAdd, Int32.reduceSub, Int32.reduceMul, Int32.reduceToInt, Int32.reduceToNatClampNeg]
  replace hT : K (.inl (some (.int (g_MO_placeOf ((th, x0, y0, wd, hi), (sc, dt, dw, eq, ea, lg, wm), (ch, de, sn), (si, su, fa, cn), (an, vs, vd)) x y)))) (hM cI P ((th, x0, y0, wd, hi), (sc, dt, dw, eq, ea, lg, wm), (ch, de, sn), (si, su, fa, cn), (an, vs, vd)) r) := hT
  simp only [g_MO_placeOf, zKi K, Classical.not_not, hM, hMc] at hT
  exact hT
def f_opn (sc s0 s1 s2 s3 hs x y : Int32) : Int32 := if hs = 0 then 0 else if sc = 0 then 1 else if x < s0 then 0 else if y < s1 then 0 else if s2 ≤ x then 0 else if y < s3 then 1 else 0
def g_MO_isOpen (m : mSt) (x y : Int32) : Int32 := match m with
  | ((th, x0, y0, wd, hi), (sc, dt, dw, eq, ea, lg, wm), (ch, de, sn), (si, su, fa, cn), (an, vs, vd)) => f_opn sc (si 0) (si 1) (si 2) (si 3) (f_has x0 y0 wd hi x y) x y
def T_MO_isOpen : ClassId → ClassId → zT := fun cI _ as h K => match as with
  | [.ref 10, .int x, .int y] => rdM cI h (fun put m => K (.inl (some (.int (g_MO_isOpen m x y)))) (put m))
  | _ => False
def E_MO_isOpen : ClassId → ClassId → Nat → Nat → Option zEn := fun cI cL kd i => match kd, i with
  | 1, 86 => some (3, some 5, true, true, 0, 0, T_MO_isInFrame cI cL)
  | _, _ => none
theorem E_MO_isOpen_k : (∀ cI cL, E_MO_isOpen cI cL 1 86 = some (3, some 5, true, true, 0, 0, T_MO_isInFrame cI cL)) := fun _ _ => rfl
set_option maxHeartbeats 4000000 in
set_option maxRecDepth 100000 in
theorem C_MO_isOpen {l : Launch} (hl : l.stackTraces = false) : zC l y_MO_isOpen (Cond.code y_MO_isOpen prog_8_method_14_code 4 (some .boolean) :: wsG) (rmL 2 0 0) zcl true 0 0 T_MO_isOpen := by
  refine zC_of (G := G_MO) (E := E_MO_isOpen) (X := zXn) (SL := zSn) (NW := zNn) (CS := zCn) (ctor := false) hl (by decide) rfl rfl rfl G_MO_ok (fun z => by cases z) (fun _ _ z => by cases z) (fun _ _ _ _ z => by cases z) (List.mem_cons_of_mem _ ka_i) (fun _ _ _ z => by cases z) (fun _ z => by cases z) (by
    intro p e s m args below meth c D A cI cL hx hb hml hown hts hK hA hEX kd idx en hE
    unfold E_MO_isOpen at hE
    split at hE
    · cases hE; exact zRow_V (C_MO_isInFrame hl) rfl (Or.inl ⟨_, _, rfl⟩) hx hb hml hown hts hK hA hEX (hin_c kb_MO_isInFrame) (List.mem_cons_of_mem _ kn_MO) (List.mem_cons_of_mem _ ki_MO_isInFrame) (List.mem_cons_of_mem _ kv_MO_isInFrame) rfl (Or.inl (List.mem_cons_of_mem _ km_MO_86)) (by decide) (by decide) (by decide) rfl rfl
    · cases hE) ?_
  intro cI cL as h K hT
  match as, hT with
  | [.ref 10, .int x, .int y], hT =>
  obtain ⟨P, ⟨⟨th, x0, y0, wd, hi⟩, ⟨sc, dt, dw, eq, ea, lg, wm⟩, ⟨ch, de, sn⟩, ⟨si, su, fa, cn⟩, ⟨an, vs, vd⟩⟩, r, rfl, hU⟩ := hT
  replace hT := hU
  clear hU
  refine ⟨by simp [Value.category], by simp, fun Jd hc => zw_sound (J := fun _ => none) hc (fun _ _ z => by cases z) 47 0 _ _ _ _ _ _ ?_⟩
  simp (maxSteps := 4000000) only [zlc, zif0, zf3, D_MO_isOpen, G_MO_k, E_MO_isOpen_k, T_MO_isInFrame, g_MO_isInFrame, hM, hMc, hP_g, hP_s, hP_l, rdM_k, zvi, Classical.not_not, zw_S, zk_iconst, zk_bipush, zk_sipush, zk_ldc, zk_ldc_w, zk_aconst_null, zk_iload_n, zk_iload, zk_aload_n, zk_aload, zk_istore_n, zk_istore, zk_astore_n, zk_astore, zk_iinc, zk_iadd, zk_isub, zk_imul, zk_idiv, zk_iand, zk_ior, zk_ixor, zk_ishl, zk_ishr, zk_iushr, zk_i2l, zk_lcmp, zk_dup, zk_pop, zk_dup_x1, zk_dup2, zk_dup_x2, zk_goto, zk_ifCond, zk_if_icmp, zk_tableswitch, zk_getfield, zk_putfield, zk_iaload, zk_iastore, zk_laload, zk_lastore, zk_arraylength, zk_invokestatic, zk_invokevirtual, zk_invokespecial, zk_new, zk_newarray, zk_ireturn, zk_areturn, zk_return_, zi1_k, zi2_k, zr1_k, zri_k, zrii_k, zril_k, zvr_k, zl2_k, zv1_k, zv2_k, zv3_k, zli_k, zlr_k, zob_k, zai_k, zal_k, zfv_k, zlim_k, zlrm_k, zobm_k, zaim_k, zalm_k, zfvm_k, zgetf_k, zput_k, zcal_k, zrv_n, zrv_s, zswT_n, zswT_c, zgo_k, zcc_eq, zcc_ne, zcc_lt, zcc_ge, zcc_gt, zcc_le, zldj_k, zexc_k, znew_k, zial_k, zct_i, zct_l, zct_r, zct_n, zKK_r, zKK_x, znr_i, znr_0, znr_1, znr_v, znr_a, znr_o, znar_i, znar_r, znar_a, zfit_i, zfit_r, zfit_a, zbc, zlit, eq_self, List.getElem?_cons_zero, List.getElem?_cons_succ, List.set_cons_zero, List.set_cons_succ, List.take_succ_cons, List.take_zero, List.drop_succ_cons, List.drop_zero, List.reverse_cons, List.reverse_nil, List.nil_append, List.cons_append, List.append_nil, List.length_cons, List.length_nil, List.map_cons, List.map_nil, List.sum_cons, List.sum_nil, Option.toList_some, Option.toList_none, Nat.zero_add, Nat.add_zero, Bool.or_false, Bool.false_or, Bool.or_true, Bool.true_or, Bool.not_true, Bool.not_false, ge_iff_le, Fin.isValue, Fin.val_zero, Fin.val_one, Fin.val_two, true_and, and_true, true_implies, false_implies, forall_const, if_true, if_false, ite_true, ite_false, reduceIte, reduceCtorEq, true_or, or_true, and_self, implies_true, not_false_eq_true, not_true_eq_false, Nat.le_refl, Nat.zero_le, and_false, false_and, Nat.reduceAdd, Nat.reduceSub, Nat.reduceLT, Nat.reduceLeDiff, Nat.reduceMul, Nat.reduceEqDiff, Int.reduceAdd, Int.reduceNeg, Int.reduceToNat, Int.reduceLE, Int.reduceNatCast, Int.reduceSub, Int.reduceLT, Int.reduceEq, List.replicate_zero, List.replicate_succ, Int.reduceNatCast', Int32.reduceOfInt, Int32.reduceLT, Int32.reduceLE, Int32.reduceAdd, Int32.reduceSub, Int32.reduceMul, Int32.reduceToInt, Int32.reduceToNatClampNeg]
  repeat' (first | (intro _) | (apply And.intro))
  all_goals (first | exact hT | (simp only [g_MO_isOpen, f_opn, hM, hMc, *, if_true, if_false, reduceIte, not_true_eq_false, not_false_eq_true] at hT; exact hT) | (simp [g_MO_isOpen, f_opn, hM, hMc, *] at hT; exact hT) | (simp [g_MO_isOpen, f_opn, hM, hMc, *] at hT ⊢; exact hT) | (simp_all [g_MO_isOpen, f_opn, hM, hMc]; done))
def g_th (a b : Int32) : Int32 := if a = 0 then (if b = 0 then 0 else 2) else 1
def g_rf (a b : Int32) : Int32 := if a = 0 then (if b = 0 then 0 else 1) else 1
theorem rfk : (g_th 0 0 = 0) ∧ (g_th 1 0 = 1) ∧ (g_th 0 1 = 2) ∧ (g_th 1 1 = 1) ∧ (g_rf 0 0 = 0) ∧ (g_rf 1 0 = 1) ∧ (g_rf 0 1 = 1) ∧ (g_rf 1 1 = 1) := by decide
def f_MO_refuse (m : mSt) (a b : Int32) : zO × mSt := match m with
  | ((th, x0, y0, wd, hi), (sc, dt, dw, eq, ea, lg, wm), (ch, de, sn), (si, su, fa, cn), (an, vs, vd)) => (.inl (some (.int (g_rf a b))), ((g_th a b, x0, y0, wd, hi), (sc, dt, dw, eq, ea, lg, wm), (ch, de, sn), (si, su, fa, cn), (an, vs, vd)))
def T_MO_refuse : ClassId → ClassId → zT := fun cI _ as h K => match as with
  | [.ref 10, .int a, .int b] => rdM cI h (fun put m => K (f_MO_refuse m a b).1 (put (f_MO_refuse m a b).2))
  | _ => False
set_option maxHeartbeats 4000000 in
set_option maxRecDepth 100000 in
theorem C_MO_refuse {l : Launch} (hl : l.stackTraces = false) : zC l y_MO_refuse (Cond.code y_MO_refuse prog_8_method_3_code 3 (some .boolean) :: wsG) (rmL 1 0 0) zcl false 0 0 T_MO_refuse := by
  refine zC_of (G := G_MO) (E := zEn0) (X := zXn) (SL := zSn) (NW := zNn) (CS := zCn) (ctor := false) hl (by decide) rfl rfl rfl G_MO_ok (fun z => by cases z) (fun _ _ z => by cases z) (fun _ _ _ _ z => by cases z) (List.mem_cons_of_mem _ ka_i) (fun _ _ _ z => by cases z) (fun _ z => by cases z) (fun _ _ _ _ _ _ _ _ _ _ _ _ _ _ _ _ _ _ _ _ _ _ _ z => by cases z) ?_
  intro cI cL as h K hT
  match as, hT with
  | [.ref 10, .int a, .int b], hT =>
  obtain ⟨P, ⟨⟨th, x0, y0, wd, hi⟩, ⟨sc, dt, dw, eq, ea, lg, wm⟩, ⟨ch, de, sn⟩, ⟨si, su, fa, cn⟩, ⟨an, vs, vd⟩⟩, r, rfl, hU⟩ := hT
  replace hT := hU
  clear hU
  refine ⟨by simp [Value.category], by simp, fun Jd hc => zw_sound (J := fun _ => none) hc (fun _ _ z => by cases z) 23 0 _ _ _ _ _ _ ?_⟩
  simp (maxSteps := 4000000) only [zlc, zif0, zf3, D_MO_refuse, G_MO_k, hM, hMc, hP_g, hP_s, hP_l, rdM_k, zvi, Classical.not_not, zw_S, zk_iconst, zk_bipush, zk_sipush, zk_ldc, zk_ldc_w, zk_aconst_null, zk_iload_n, zk_iload, zk_aload_n, zk_aload, zk_istore_n, zk_istore, zk_astore_n, zk_astore, zk_iinc, zk_iadd, zk_isub, zk_imul, zk_idiv, zk_iand, zk_ior, zk_ixor, zk_ishl, zk_ishr, zk_iushr, zk_i2l, zk_lcmp, zk_dup, zk_pop, zk_dup_x1, zk_dup2, zk_dup_x2, zk_goto, zk_ifCond, zk_if_icmp, zk_tableswitch, zk_getfield, zk_putfield, zk_iaload, zk_iastore, zk_laload, zk_lastore, zk_arraylength, zk_invokestatic, zk_invokevirtual, zk_invokespecial, zk_new, zk_newarray, zk_ireturn, zk_areturn, zk_return_, zi1_k, zi2_k, zr1_k, zri_k, zrii_k, zril_k, zvr_k, zl2_k, zv1_k, zv2_k, zv3_k, zli_k, zlr_k, zob_k, zai_k, zal_k, zfv_k, zlim_k, zlrm_k, zobm_k, zaim_k, zalm_k, zfvm_k, zgetf_k, zput_k, zcal_k, zrv_n, zrv_s, zswT_n, zswT_c, zgo_k, zcc_eq, zcc_ne, zcc_lt, zcc_ge, zcc_gt, zcc_le, zldj_k, zexc_k, znew_k, zial_k, zct_i, zct_l, zct_r, zct_n, zKK_r, zKK_x, znr_i, znr_0, znr_1, znr_v, znr_a, znr_o, znar_i, znar_r, znar_a, zfit_i, zfit_r, zfit_a, zbc, zlit, eq_self, List.getElem?_cons_zero, List.getElem?_cons_succ, List.set_cons_zero, List.set_cons_succ, List.take_succ_cons, List.take_zero, List.drop_succ_cons, List.drop_zero, List.reverse_cons, List.reverse_nil, List.nil_append, List.cons_append, List.append_nil, List.length_cons, List.length_nil, List.map_cons, List.map_nil, List.sum_cons, List.sum_nil, Option.toList_some, Option.toList_none, Nat.zero_add, Nat.add_zero, Bool.or_false, Bool.false_or, Bool.or_true, Bool.true_or, Bool.not_true, Bool.not_false, ge_iff_le, Fin.isValue, Fin.val_zero, Fin.val_one, Fin.val_two, true_and, and_true, true_implies, false_implies, forall_const, if_true, if_false, ite_true, ite_false, reduceIte, reduceCtorEq, true_or, or_true, and_self, implies_true, not_false_eq_true, not_true_eq_false, Nat.le_refl, Nat.zero_le, and_false, false_and, Nat.reduceAdd, Nat.reduceSub, Nat.reduceLT, Nat.reduceLeDiff, Nat.reduceMul, Nat.reduceEqDiff, Int.reduceAdd, Int.reduceNeg, Int.reduceToNat, Int.reduceLE, Int.reduceNatCast, Int.reduceSub, Int.reduceLT, Int.reduceEq, List.replicate_zero, List.replicate_succ, Int.reduceNatCast', Int32.reduceOfInt, Int32.reduceLT, Int32.reduceLE, Int32.reduceAdd, Int32.reduceSub, Int32.reduceMul, Int32.reduceToInt, Int32.reduceToNatClampNeg]
  repeat' (first | (intro _) | (apply And.intro))
  all_goals (first | exact hT | (simp only [f_MO_refuse, g_th, g_rf, hM, hMc, *, if_true, if_false, reduceIte, not_true_eq_false, not_false_eq_true] at hT; exact hT) | (simp [f_MO_refuse, g_th, g_rf, hM, hMc, *] at hT; exact hT) | (simp [f_MO_refuse, g_th, g_rf, hM, hMc, *] at hT ⊢; exact hT) | (simp_all [f_MO_refuse, g_th, g_rf, hM, hMc]; done))
def f_MO_writeStencil (m : mSt) (p v w : Int32) : zO × mSt := match m with
  | ((th, x0, y0, wd, hi), (sc, dt, dw, eq, ea, lg, wm), (ch, de, sn), (si, su, fa, cn), (an, vs, vd)) => (.inl none, ((th, x0, y0, wd, hi), (sc, dt, dw, eq, ea, lg, wm), (ch, de, (upd sn p.toNatClampNeg (f_mrg (sn p.toNatClampNeg) v w))), (si, su, fa, cn), (an, vs, vd)))
def p_MO_writeStencil (m : mSt) (p v w : Int32) : Prop := match m with
  | ((th, x0, y0, wd, hi), (sc, dt, dw, eq, ea, lg, wm), (ch, de, sn), (si, su, fa, cn), (an, vs, vd)) => vp_in p 4096
def T_MO_writeStencil : ClassId → ClassId → zT := fun cI _ as h K => match as with
  | [.ref 10, .int p, .int v, .int w] => rdM cI h (fun put m => p_MO_writeStencil m p v w ∧ K (f_MO_writeStencil m p v w).1 (put (f_MO_writeStencil m p v w).2))
  | _ => False
set_option maxHeartbeats 4000000 in
set_option maxRecDepth 100000 in
theorem C_MO_writeStencil {l : Launch} (hl : l.stackTraces = false) : zC l y_MO_writeStencil (Cond.code y_MO_writeStencil prog_8_method_16_code 4 none :: wsG) (rmL 1 0 0) zcl false 0 0 T_MO_writeStencil := by
  refine zC_of (G := G_MO) (E := zEn0) (X := zXn) (SL := zSn) (NW := zNn) (CS := zCn) (ctor := false) hl (by decide) rfl rfl rfl G_MO_ok (fun z => by cases z) (fun _ _ z => by cases z) (fun _ _ _ _ z => by cases z) (List.mem_cons_of_mem _ ka_i) (fun _ _ _ z => by cases z) (fun _ z => by cases z) (fun _ _ _ _ _ _ _ _ _ _ _ _ _ _ _ _ _ _ _ _ _ _ _ z => by cases z) ?_
  intro cI cL as h K hT
  match as, hT with
  | [.ref 10, .int p, .int v, .int w], hT =>
  obtain ⟨P, ⟨⟨th, x0, y0, wd, hi⟩, ⟨sc, dt, dw, eq, ea, lg, wm⟩, ⟨ch, de, sn⟩, ⟨si, su, fa, cn⟩, ⟨an, vs, vd⟩⟩, r, rfl, hp, hU⟩ := hT
  replace hT := hU
  clear hU
  refine ⟨by simp [Value.category], by simp, fun Jd hc => zw_sound (J := fun _ => none) hc (fun _ _ z => by cases z) 22 0 _ _ _ _ _ _ ?_⟩
  simp (maxSteps := 4000000) only [zlc, zif0, zf3, D_MO_writeStencil, G_MO_k, hM, hMc, hP_g, hP_s, hP_l, rdM_k, zvi, Classical.not_not, zw_S, zk_iconst, zk_bipush, zk_sipush, zk_ldc, zk_ldc_w, zk_aconst_null, zk_iload_n, zk_iload, zk_aload_n, zk_aload, zk_istore_n, zk_istore, zk_astore_n, zk_astore, zk_iinc, zk_iadd, zk_isub, zk_imul, zk_idiv, zk_iand, zk_ior, zk_ixor, zk_ishl, zk_ishr, zk_iushr, zk_i2l, zk_lcmp, zk_dup, zk_pop, zk_dup_x1, zk_dup2, zk_dup_x2, zk_goto, zk_ifCond, zk_if_icmp, zk_tableswitch, zk_getfield, zk_putfield, zk_iaload, zk_iastore, zk_laload, zk_lastore, zk_arraylength, zk_invokestatic, zk_invokevirtual, zk_invokespecial, zk_new, zk_newarray, zk_ireturn, zk_areturn, zk_return_, zi1_k, zi2_k, zr1_k, zri_k, zrii_k, zril_k, zvr_k, zl2_k, zv1_k, zv2_k, zv3_k, zli_k, zlr_k, zob_k, zai_k, zal_k, zfv_k, zlim_k, zlrm_k, zobm_k, zaim_k, zalm_k, zfvm_k, zgetf_k, zput_k, zcal_k, zrv_n, zrv_s, zswT_n, zswT_c, zgo_k, zcc_eq, zcc_ne, zcc_lt, zcc_ge, zcc_gt, zcc_le, zldj_k, zexc_k, znew_k, zial_k, zct_i, zct_l, zct_r, zct_n, zKK_r, zKK_x, znr_i, znr_0, znr_1, znr_v, znr_a, znr_o, znar_i, znar_r, znar_a, zfit_i, zfit_r, zfit_a, zbc, zlit, eq_self, List.getElem?_cons_zero, List.getElem?_cons_succ, List.set_cons_zero, List.set_cons_succ, List.take_succ_cons, List.take_zero, List.drop_succ_cons, List.drop_zero, List.reverse_cons, List.reverse_nil, List.nil_append, List.cons_append, List.append_nil, List.length_cons, List.length_nil, List.map_cons, List.map_nil, List.sum_cons, List.sum_nil, Option.toList_some, Option.toList_none, Nat.zero_add, Nat.add_zero, Bool.or_false, Bool.false_or, Bool.or_true, Bool.true_or, Bool.not_true, Bool.not_false, ge_iff_le, Fin.isValue, Fin.val_zero, Fin.val_one, Fin.val_two, true_and, and_true, true_implies, false_implies, forall_const, if_true, if_false, ite_true, ite_false, reduceIte, reduceCtorEq, true_or, or_true, and_self, implies_true, not_false_eq_true, not_true_eq_false, Nat.le_refl, Nat.zero_le, and_false, false_and, Nat.reduceAdd, Nat.reduceSub, Nat.reduceLT, Nat.reduceLeDiff, Nat.reduceMul, Nat.reduceEqDiff, Int.reduceAdd, Int.reduceNeg, Int.reduceToNat, Int.reduceLE, Int.reduceNatCast, Int.reduceSub, Int.reduceLT, Int.reduceEq, List.replicate_zero, List.replicate_succ, Int.reduceNatCast', Int32.reduceOfInt, Int32.reduceLT, Int32.reduceLE, Int32.reduceAdd, Int32.reduceSub, Int32.reduceMul, Int32.reduceToInt, Int32.reduceToNatClampNeg]
  have hp : vp_in p 4096 := hp
  refine ⟨hp, hp, ?_⟩
  simp only [f_MO_writeStencil, f_mrg] at hT
  simp only [hM, hMc] at hT
  exact hT
def f_MO_answer (m : mSt) (n : Int32) : zO × mSt := match m with
  | ((th, x0, y0, wd, hi), (sc, dt, dw, eq, ea, lg, wm), (ch, de, sn), (si, su, fa, cn), (an, vs, vd)) => (.inl (some (.int n)), ((th, x0, y0, wd, hi), (sc, dt, dw, eq, ea, lg, wm), (ch, de, sn), (si, su, fa, cn), ((upd an n.toNatClampNeg (an n.toNatClampNeg + 1)), vs, vd)))
def p_MO_answer (m : mSt) (n : Int32) : Prop := match m with
  | ((th, x0, y0, wd, hi), (sc, dt, dw, eq, ea, lg, wm), (ch, de, sn), (si, su, fa, cn), (an, vs, vd)) => vp_in n 4
def T_MO_answer : ClassId → ClassId → zT := fun cI _ as h K => match as with
  | [.ref 10, .int n] => rdM cI h (fun put m => p_MO_answer m n ∧ K (f_MO_answer m n).1 (put (f_MO_answer m n).2))
  | _ => False
set_option maxHeartbeats 4000000 in
set_option maxRecDepth 100000 in
theorem C_MO_answer {l : Launch} (hl : l.stackTraces = false) : zC l y_MO_answer (Cond.code y_MO_answer prog_8_method_26_code 2 (some .int) :: wsG) (rmL 1 0 0) zcl false 0 0 T_MO_answer := by
  refine zC_of (G := G_MO) (E := zEn0) (X := zXn) (SL := zSn) (NW := zNn) (CS := zCn) (ctor := false) hl (by decide) rfl rfl rfl G_MO_ok (fun z => by cases z) (fun _ _ z => by cases z) (fun _ _ _ _ z => by cases z) (List.mem_cons_of_mem _ ka_i) (fun _ _ _ z => by cases z) (fun _ z => by cases z) (fun _ _ _ _ _ _ _ _ _ _ _ _ _ _ _ _ _ _ _ _ _ _ _ z => by cases z) ?_
  intro cI cL as h K hT
  match as, hT with
  | [.ref 10, .int n], hT =>
  obtain ⟨P, ⟨⟨th, x0, y0, wd, hi⟩, ⟨sc, dt, dw, eq, ea, lg, wm⟩, ⟨ch, de, sn⟩, ⟨si, su, fa, cn⟩, ⟨an, vs, vd⟩⟩, r, rfl, hp, hU⟩ := hT
  replace hT := hU
  clear hU
  refine ⟨by simp [Value.category], by simp, fun Jd hc => zw_sound (J := fun _ => none) hc (fun _ _ z => by cases z) 15 0 _ _ _ _ _ _ ?_⟩
  simp (maxSteps := 4000000) only [zlc, zif0, zf3, D_MO_answer, G_MO_k, hM, hMc, hP_g, hP_s, hP_l, rdM_k, zvi, Classical.not_not, zw_S, zk_iconst, zk_bipush, zk_sipush, zk_ldc, zk_ldc_w, zk_aconst_null, zk_iload_n, zk_iload, zk_aload_n, zk_aload, zk_istore_n, zk_istore, zk_astore_n, zk_astore, zk_iinc, zk_iadd, zk_isub, zk_imul, zk_idiv, zk_iand, zk_ior, zk_ixor, zk_ishl, zk_ishr, zk_iushr, zk_i2l, zk_lcmp, zk_dup, zk_pop, zk_dup_x1, zk_dup2, zk_dup_x2, zk_goto, zk_ifCond, zk_if_icmp, zk_tableswitch, zk_getfield, zk_putfield, zk_iaload, zk_iastore, zk_laload, zk_lastore, zk_arraylength, zk_invokestatic, zk_invokevirtual, zk_invokespecial, zk_new, zk_newarray, zk_ireturn, zk_areturn, zk_return_, zi1_k, zi2_k, zr1_k, zri_k, zrii_k, zril_k, zvr_k, zl2_k, zv1_k, zv2_k, zv3_k, zli_k, zlr_k, zob_k, zai_k, zal_k, zfv_k, zlim_k, zlrm_k, zobm_k, zaim_k, zalm_k, zfvm_k, zgetf_k, zput_k, zcal_k, zrv_n, zrv_s, zswT_n, zswT_c, zgo_k, zcc_eq, zcc_ne, zcc_lt, zcc_ge, zcc_gt, zcc_le, zldj_k, zexc_k, znew_k, zial_k, zct_i, zct_l, zct_r, zct_n, zKK_r, zKK_x, znr_i, znr_0, znr_1, znr_v, znr_a, znr_o, znar_i, znar_r, znar_a, zfit_i, zfit_r, zfit_a, zbc, zlit, eq_self, List.getElem?_cons_zero, List.getElem?_cons_succ, List.set_cons_zero, List.set_cons_succ, List.take_succ_cons, List.take_zero, List.drop_succ_cons, List.drop_zero, List.reverse_cons, List.reverse_nil, List.nil_append, List.cons_append, List.append_nil, List.length_cons, List.length_nil, List.map_cons, List.map_nil, List.sum_cons, List.sum_nil, Option.toList_some, Option.toList_none, Nat.zero_add, Nat.add_zero, Bool.or_false, Bool.false_or, Bool.or_true, Bool.true_or, Bool.not_true, Bool.not_false, ge_iff_le, Fin.isValue, Fin.val_zero, Fin.val_one, Fin.val_two, true_and, and_true, true_implies, false_implies, forall_const, if_true, if_false, ite_true, ite_false, reduceIte, reduceCtorEq, true_or, or_true, and_self, implies_true, not_false_eq_true, not_true_eq_false, Nat.le_refl, Nat.zero_le, and_false, false_and, Nat.reduceAdd, Nat.reduceSub, Nat.reduceLT, Nat.reduceLeDiff, Nat.reduceMul, Nat.reduceEqDiff, Int.reduceAdd, Int.reduceNeg, Int.reduceToNat, Int.reduceLE, Int.reduceNatCast, Int.reduceSub, Int.reduceLT, Int.reduceEq, List.replicate_zero, List.replicate_succ, Int.reduceNatCast', Int32.reduceOfInt, Int32.reduceLT, Int32.reduceLE, Int32.reduceAdd, Int32.reduceSub, Int32.reduceMul, Int32.reduceToInt, Int32.reduceToNatClampNeg]
  have hp : vp_in n 4 := hp
  refine ⟨hp, hp, ?_⟩
  simp only [f_MO_answer] at hT
  simp only [hM, hMc] at hT
  exact hT

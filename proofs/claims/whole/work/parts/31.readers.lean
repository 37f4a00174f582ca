def f_has (x0 y0 wd hg x y : Int32) : Int32 := if x < x0 then 0 else if x0 + wd ≤ x then 0 else if y < y0 then 0 else if y0 + hg ≤ y then 0 else 1
def T_FR_has : ClassId → ClassId → zT := fun _ _ as h K => match as with
  | [.ref i, .int x, .int y] => zob h i 1 (fun fs => match fs with
    | [_, _, _, _, .int x0, .int y0, .int wd, .int hg, _] => K (.inl (some (.int (f_has x0 y0 wd hg x y)))) h
    | _ => False)
  | _ => False
set_option maxHeartbeats 4000000 in
set_option maxRecDepth 100000 in
theorem C_FR_has {l : Launch} (hl : l.stackTraces = false) : zC l y_FR_has (Cond.code y_FR_has prog_4_method_3_code 3 (some .boolean) :: wsG) (rmL 1 0 0) zcl true 0 0 T_FR_has := by
  refine zC_of (G := G_FR) (E := zEn0) (X := zXn) (SL := zSn) (NW := zNn) (CS := zCn) (ctor := false) hl (by decide) rfl rfl rfl G_FR_ok (fun z => by cases z) (fun _ _ z => by cases z) (fun _ _ _ _ z => by cases z) (List.mem_cons_of_mem _ ka_i) (fun _ _ _ z => by cases z) (fun _ z => by cases z) (fun _ _ _ _ _ _ _ _ _ _ _ _ _ _ _ _ _ _ _ _ _ _ _ z => by cases z) ?_
  intro cI cL as h K hT
  match as, hT with
  | [.ref i, .int x, .int y], hT =>
  obtain ⟨fs, hi, hT⟩ := zob_s hT
  match fs, hi, hT with
  | [u0, u1, u2, u3, .int x0, .int y0, .int wd, .int hg, u4], hi, hT =>
  have hT : K (.inl (some (.int (f_has x0 y0 wd hg x y)))) h := hT
  refine ⟨by simp [Value.category], by simp, fun Jd hc => zw_sound (J := fun _ => none) hc (fun _ _ z => by cases z) 31 0 _ _ _ _ _ _ ?_⟩
  simp (maxSteps := 4000000) only [zlc, zif0, zf3, D_FR_has, G_FR_k, Classical.not_not, hi, zw_S, zk_iconst, zk_bipush, zk_sipush, zk_ldc, zk_ldc_w, zk_aconst_null, zk_iload_n, zk_iload, zk_aload_n, zk_aload, zk_istore_n, zk_istore, zk_astore_n, zk_astore, zk_iinc, zk_iadd, zk_isub, zk_imul, zk_idiv, zk_iand, zk_ior, zk_ixor, zk_ishl, zk_ishr, zk_iushr, zk_i2l, zk_lcmp, zk_dup, zk_pop, zk_dup_x1, zk_dup2, zk_dup_x2, zk_goto, zk_ifCond, zk_if_icmp, zk_tableswitch, zk_getfield, zk_putfield, zk_iaload, zk_iastore, zk_laload, zk_lastore, zk_arraylength, zk_invokestatic, zk_invokevirtual, zk_invokespecial, zk_new, zk_newarray, zk_ireturn, zk_areturn, zk_return_, zi1_k, zi2_k, zr1_k, zri_k, zrii_k, zril_k, zvr_k, zl2_k, zv1_k, zv2_k, zv3_k, zli_k, zlr_k, zob_k, zai_k, zal_k, zfv_k, zlim_k, zlrm_k, zobm_k, zaim_k, zalm_k, zfvm_k, zgetf_k, zput_k, zcal_k, zrv_n, zrv_s, zswT_n, zswT_c, zgo_k, zcc_eq, zcc_ne, zcc_lt, zcc_ge, zcc_gt, zcc_le, zldj_k, zexc_k, znew_k, zial_k, zct_i, zct_l, zct_r, zct_n, zKK_r, zKK_x, znr_i, znr_0, znr_1, znr_v, znr_a, znr_o, znar_i, znar_r, znar_a, zfit_i, zfit_r, zfit_a, zbc, zlit, eq_self, List.getElem?_cons_zero, List.getElem?_cons_succ, List.set_cons_zero, List.set_cons_succ, List.take_succ_cons, List.take_zero, List.drop_succ_cons, List.drop_zero, List.reverse_cons, List.reverse_nil, List.nil_append, List.cons_append, List.append_nil, List.length_cons, List.length_nil, List.map_cons, List.map_nil, List.sum_cons, List.sum_nil, Option.toList_some, Option.toList_none, Nat.zero_add, Nat.add_zero, Bool.or_false, Bool.false_or, Bool.or_true, Bool.true_or, Bool.not_true, Bool.not_false, ge_iff_le, Fin.isValue, Fin.val_zero, Fin.val_one, Fin.val_two, true_and, and_true, true_implies, false_implies, forall_const, if_true, if_false, ite_true, ite_false, reduceIte, reduceCtorEq, true_or, or_true, and_self, implies_true, not_false_eq_true, not_true_eq_false, Nat.le_refl, Nat.zero_le, and_false, false_and, Nat.reduceAdd, Nat.reduceSub, Nat.reduceLT, Nat.reduceLeDiff, Nat.reduceMul, Nat.reduceEqDiff, Int.reduceAdd, Int.reduceNeg, Int.reduceToNat, Int.reduceLE, Int.reduceNatCast, Int.reduceSub, Int.reduceLT, Int.reduceEq, List.replicate_zero, List.replicate_succ, Int.reduceNatCast', Int32.reduceOfInt, Int32.reduceLT, Int32.reduceLE, Int32.reduceAdd, Int32.reduceSub, Int32.reduceMul, Int32.reduceToInt, Int32.reduceToNatClampNeg]
  repeat' (first | (intro _) | (apply And.intro))
  all_goals (first | exact hT | (simp only [f_has, *, if_true, if_false, reduceIte, not_true_eq_false, not_false_eq_true] at hT; exact hT) | (simp [f_has, *] at hT; exact hT) | (simp [f_has, *] at hT ⊢; exact hT) | (simp_all [f_has]; done))
def f_idx (x0 y0 wd x y : Int32) : Int32 := (y - y0) * wd + (x - x0)
def T_FR_indexOf : ClassId → ClassId → zT := fun _ _ as h K => match as with
  | [.ref i, .int x, .int y] => zob h i 1 (fun fs => match fs with
    | [_, _, _, _, .int x0, .int y0, .int wd, .int hg, _] => K (.inl (some (.int (f_idx x0 y0 wd x y)))) h
    | _ => False)
  | _ => False
set_option maxHeartbeats 4000000 in
set_option maxRecDepth 100000 in
theorem C_FR_indexOf {l : Launch} (hl : l.stackTraces = false) : zC l y_FR_indexOf (Cond.code y_FR_indexOf prog_4_method_4_code 3 (some .int) :: wsG) (rmL 1 0 0) zcl true 0 0 T_FR_indexOf := by
  refine zC_of (G := G_FR) (E := zEn0) (X := zXn) (SL := zSn) (NW := zNn) (CS := zCn) (ctor := false) hl (by decide) rfl rfl rfl G_FR_ok (fun z => by cases z) (fun _ _ z => by cases z) (fun _ _ _ _ z => by cases z) (List.mem_cons_of_mem _ ka_i) (fun _ _ _ z => by cases z) (fun _ z => by cases z) (fun _ _ _ _ _ _ _ _ _ _ _ _ _ _ _ _ _ _ _ _ _ _ _ z => by cases z) ?_
  intro cI cL as h K hT
  match as, hT with
  | [.ref i, .int x, .int y], hT =>
  obtain ⟨fs, hi, hT⟩ := zob_s hT
  match fs, hi, hT with
  | [u0, u1, u2, u3, .int x0, .int y0, .int wd, .int hg, u4], hi, hT =>
  have hT : K (.inl (some (.int (f_idx x0 y0 wd x y)))) h := hT
  refine ⟨by simp [Value.category], by simp, fun Jd hc => zw_sound (J := fun _ => none) hc (fun _ _ z => by cases z) 18 0 _ _ _ _ _ _ ?_⟩
  simp (maxSteps := 4000000) only [zlc, zif0, zf3, D_FR_indexOf, G_FR_k, Classical.not_not, hi, zw_S, zk_iconst, zk_bipush, zk_sipush, zk_ldc, zk_ldc_w, zk_aconst_null, zk_iload_n, zk_iload, zk_aload_n, zk_aload, zk_istore_n, zk_istore, zk_astore_n, zk_astore, zk_iinc, zk_iadd, zk_isub, zk_imul, zk_idiv, zk_iand, zk_ior, zk_ixor, zk_ishl, zk_ishr, zk_iushr, zk_i2l, zk_lcmp, zk_dup, zk_pop, zk_dup_x1, zk_dup2, zk_dup_x2, zk_goto, zk_ifCond, zk_if_icmp, zk_tableswitch, zk_getfield, zk_putfield, zk_iaload, zk_iastore, zk_laload, zk_lastore, zk_arraylength, zk_invokestatic, zk_invokevirtual, zk_invokespecial, zk_new, zk_newarray, zk_ireturn, zk_areturn, zk_return_, zi1_k, zi2_k, zr1_k, zri_k, zrii_k, zril_k, zvr_k, zl2_k, zv1_k, zv2_k, zv3_k, zli_k, zlr_k, zob_k, zai_k, zal_k, zfv_k, zlim_k, zlrm_k, zobm_k, zaim_k, zalm_k, zfvm_k, zgetf_k, zput_k, zcal_k, zrv_n, zrv_s, zswT_n, zswT_c, zgo_k, zcc_eq, zcc_ne, zcc_lt, zcc_ge, zcc_gt, zcc_le, zldj_k, zexc_k, znew_k, zial_k, zct_i, zct_l, zct_r, zct_n, zKK_r, zKK_x, znr_i, znr_0, znr_1, znr_v, znr_a, znr_o, znar_i, znar_r, znar_a, zfit_i, zfit_r, zfit_a, zbc, zlit, eq_self, List.getElem?_cons_zero, List.getElem?_cons_succ, List.set_cons_zero, List.set_cons_succ, List.take_succ_cons, List.take_zero, List.drop_succ_cons, List.drop_zero, List.reverse_cons, List.reverse_nil, List.nil_append, List.cons_append, List.append_nil, List.length_cons, List.length_nil, List.map_cons, List.map_nil, List.sum_cons, List.sum_nil, Option.toList_some, Option.toList_none, Nat.zero_add, Nat.add_zero, Bool.or_false, Bool.false_or, Bool.or_true, Bool.true_or, Bool.not_true, Bool.not_false, ge_iff_le, Fin.isValue, Fin.val_zero, Fin.val_one, Fin.val_two, true_and, and_true, true_implies, false_implies, forall_const, if_true, if_false, ite_true, ite_false, reduceIte, reduceCtorEq, true_or, or_true, and_self, implies_true, not_false_eq_true, not_true_eq_false, Nat.le_refl, Nat.zero_le, and_false, false_and, Nat.reduceAdd, Nat.reduceSub, Nat.reduceLT, Nat.reduceLeDiff, Nat.reduceMul, Nat.reduceEqDiff, Int.reduceAdd, Int.reduceNeg, Int.reduceToNat, Int.reduceLE, Int.reduceNatCast, Int.reduceSub, Int.reduceLT, Int.reduceEq, List.replicate_zero, List.replicate_succ, Int.reduceNatCast', Int32.reduceOfInt, Int32.reduceLT, Int32.reduceLE, Int32.reduceAdd, Int32.reduceSub, Int32.reduceMul, Int32.reduceToInt, Int32.reduceToNatClampNeg]
  exact hT
def T_FR_rowsOf : ClassId → ClassId → zT := fun _ _ as h K => match as with
  | [.ref i, .int w] => zob h i 1 (fun fs => match fs with
    | [_, .ref c, .ref d, .ref e, _, _, _, _, _] => (w = 0 → K (.inl (some (.ref c))) h) ∧ (¬ w = 0 → (w = 1 → K (.inl (some (.ref d))) h) ∧ (¬ w = 1 → K (.inl (some (.ref e))) h))
    | _ => False)
  | _ => False
set_option maxHeartbeats 4000000 in
set_option maxRecDepth 100000 in
theorem C_FR_rowsOf {l : Launch} (hl : l.stackTraces = false) : zC l y_FR_rowsOf (Cond.code y_FR_rowsOf prog_4_method_5_code 2 (some (.array .int)) :: wsG) (rmL 1 0 0) zcl true 0 0 T_FR_rowsOf := by
  refine zC_of (G := G_FR) (E := zEn0) (X := zXn) (SL := zSn) (NW := zNn) (CS := zCn) (ctor := false) hl (by decide) rfl rfl rfl G_FR_ok (fun z => by cases z) (fun _ _ z => by cases z) (fun _ _ _ _ z => by cases z) (List.mem_cons_of_mem _ ka_i) (fun _ _ _ z => by cases z) (fun _ z => by cases z) (fun _ _ _ _ _ _ _ _ _ _ _ _ _ _ _ _ _ _ _ _ _ _ _ z => by cases z) ?_
  intro cI cL as h K hT
  match as, hT with
  | [.ref i, .int w], hT =>
  obtain ⟨fs, hi, hT⟩ := zob_s hT
  match fs, hi, hT with
  | [u0, .ref c, .ref d, .ref e, u1, u2, u3, u4, u5], hi, hT =>
  have hT : (w = 0 → K (.inl (some (.ref c))) h) ∧ (¬ w = 0 → (w = 1 → K (.inl (some (.ref d))) h) ∧ (¬ w = 1 → K (.inl (some (.ref e))) h)) := hT
  refine ⟨by simp [Value.category], by simp, fun Jd hc => zw_sound (J := fun _ => none) hc (fun _ _ z => by cases z) 19 0 _ _ _ _ _ _ ?_⟩
  simp (maxSteps := 4000000) only [zlc, zif0, zf3, D_FR_rowsOf, G_FR_k, Classical.not_not, hi, zw_S, zk_iconst, zk_bipush, zk_sipush, zk_ldc, zk_ldc_w, zk_aconst_null, zk_iload_n, zk_iload, zk_aload_n, zk_aload, zk_istore_n, zk_istore, zk_astore_n, zk_astore, zk_iinc, zk_iadd, zk_isub, zk_imul, zk_idiv, zk_iand, zk_ior, zk_ixor, zk_ishl, zk_ishr, zk_iushr, zk_i2l, zk_lcmp, zk_dup, zk_pop, zk_dup_x1, zk_dup2, zk_dup_x2, zk_goto, zk_ifCond, zk_if_icmp, zk_tableswitch, zk_getfield, zk_putfield, zk_iaload, zk_iastore, zk_laload, zk_lastore, zk_arraylength, zk_invokestatic, zk_invokevirtual, zk_invokespecial, zk_new, zk_newarray, zk_ireturn, zk_areturn, zk_return_, zi1_k, zi2_k, zr1_k, zri_k, zrii_k, zril_k, zvr_k, zl2_k, zv1_k, zv2_k, zv3_k, zli_k, zlr_k, zob_k, zai_k, zal_k, zfv_k, zlim_k, zlrm_k, zobm_k, zaim_k, zalm_k, zfvm_k, zgetf_k, zput_k, zcal_k, zrv_n, zrv_s, zswT_n, zswT_c, zgo_k, zcc_eq, zcc_ne, zcc_lt, zcc_ge, zcc_gt, zcc_le, zldj_k, zexc_k, znew_k, zial_k, zct_i, zct_l, zct_r, zct_n, zKK_r, zKK_x, znr_i, znr_0, znr_1, znr_v, znr_a, znr_o, znar_i, znar_r, znar_a, zfit_i, zfit_r, zfit_a, zbc, zlit, eq_self, List.getElem?_cons_zero, List.getElem?_cons_succ, List.set_cons_zero, List.set_cons_succ, List.take_succ_cons, List.take_zero, List.drop_succ_cons, List.drop_zero, List.reverse_cons, List.reverse_nil, List.nil_append, List.cons_append, List.append_nil, List.length_cons, List.length_nil, List.map_cons, List.map_nil, List.sum_cons, List.sum_nil, Option.toList_some, Option.toList_none, Nat.zero_add, Nat.add_zero, Bool.or_false, Bool.false_or, Bool.or_true, Bool.true_or, Bool.not_true, Bool.not_false, ge_iff_le, Fin.isValue, Fin.val_zero, Fin.val_one, Fin.val_two, true_and, and_true, true_implies, false_implies, forall_const, if_true, if_false, ite_true, ite_false, reduceIte, reduceCtorEq, true_or, or_true, and_self, implies_true, not_false_eq_true, not_true_eq_false, Nat.le_refl, Nat.zero_le, and_false, false_and, Nat.reduceAdd, Nat.reduceSub, Nat.reduceLT, Nat.reduceLeDiff, Nat.reduceMul, Nat.reduceEqDiff, Int.reduceAdd, Int.reduceNeg, Int.reduceToNat, Int.reduceLE, Int.reduceNatCast, Int.reduceSub, Int.reduceLT, Int.reduceEq, List.replicate_zero, List.replicate_succ, Int.reduceNatCast', Int32.reduceOfInt, Int32.reduceLT, Int32.reduceLE, Int32.reduceAdd, Int32.reduceSub, Int32.reduceMul, Int32.reduceToInt, Int32.reduceToNatClampNeg]
  exact ⟨fun z => ⟨(hT.2 z).2, (hT.2 z).1⟩, fun z => hT.1 z⟩
def f_hold (a b c d x y : Int32) : Int32 := if c < a then 1 else if x < a then 0 else if c ≤ x then 0 else if y < b then 0 else if d ≤ y then 0 else 1
def T_SC_hold : ClassId → ClassId → zT := fun _ _ as h K => match as with
  | [.ref i, .int x, .int y] => zob h i 2 (fun fs => match fs with
    | [.int a, .int b, .int c, .int d] => K (.inl (some (.int (f_hold a b c d x y)))) h
    | _ => False)
  | _ => False
set_option maxHeartbeats 4000000 in
set_option maxRecDepth 100000 in
theorem C_SC_hold {l : Launch} (hl : l.stackTraces = false) : zC l y_SC_hold (Cond.code y_SC_hold prog_5_method_2_code 3 (some .boolean) :: wsG) (rmL 1 0 0) zcl true 0 0 T_SC_hold := by
  refine zC_of (G := G_SC) (E := zEn0) (X := zXn) (SL := zSn) (NW := zNn) (CS := zCn) (ctor := false) hl (by decide) rfl rfl rfl G_SC_ok (fun z => by cases z) (fun _ _ z => by cases z) (fun _ _ _ _ z => by cases z) (List.mem_cons_of_mem _ ka_i) (fun _ _ _ z => by cases z) (fun _ z => by cases z) (fun _ _ _ _ _ _ _ _ _ _ _ _ _ _ _ _ _ _ _ _ _ _ _ z => by cases z) ?_
  intro cI cL as h K hT
  match as, hT with
  | [.ref i, .int x, .int y], hT =>
  obtain ⟨fs, hi, hT⟩ := zob_s hT
  match fs, hi, hT with
  | [.int a, .int b, .int c, .int d], hi, hT =>
  have hT : K (.inl (some (.int (f_hold a b c d x y)))) h := hT
  refine ⟨by simp [Value.category], by simp, fun Jd hc => zw_sound (J := fun _ => none) hc (fun _ _ z => by cases z) 30 0 _ _ _ _ _ _ ?_⟩
  simp (maxSteps := 4000000) only [zlc, zif0, zf3, D_SC_hold, G_SC_k, Classical.not_not, hi, zw_S, zk_iconst, zk_bipush, zk_sipush, zk_ldc, zk_ldc_w, zk_aconst_null, zk_iload_n, zk_iload, zk_aload_n, zk_aload, zk_istore_n, zk_istore, zk_astore_n, zk_astore, zk_iinc, zk_iadd, zk_isub, zk_imul, zk_idiv, zk_iand, zk_ior, zk_ixor, zk_ishl, zk_ishr, zk_iushr, zk_i2l, zk_lcmp, zk_dup, zk_pop, zk_dup_x1, zk_dup2, zk_dup_x2, zk_goto, zk_ifCond, zk_if_icmp, zk_tableswitch, zk_getfield, zk_putfield, zk_iaload, zk_iastore, zk_laload, zk_lastore, zk_arraylength, zk_invokestatic, zk_invokevirtual, zk_invokespecial, zk_new, zk_newarray, zk_ireturn, zk_areturn, zk_return_, zi1_k, zi2_k, zr1_k, zri_k, zrii_k, zril_k, zvr_k, zl2_k, zv1_k, zv2_k, zv3_k, zli_k, zlr_k, zob_k, zai_k, zal_k, zfv_k, zlim_k, zlrm_k, zobm_k, zaim_k, zalm_k, zfvm_k, zgetf_k, zput_k, zcal_k, zrv_n, zrv_s, zswT_n, zswT_c, zgo_k, zcc_eq, zcc_ne, zcc_lt, zcc_ge, zcc_gt, zcc_le, zldj_k, zexc_k, znew_k, zial_k, zct_i, zct_l, zct_r, zct_n, zKK_r, zKK_x, znr_i, znr_0, znr_1, znr_v, znr_a, znr_o, znar_i, znar_r, znar_a, zfit_i, zfit_r, zfit_a, zbc, zlit, eq_self, List.getElem?_cons_zero, List.getElem?_cons_succ, List.set_cons_zero, List.set_cons_succ, List.take_succ_cons, List.take_zero, List.drop_succ_cons, List.drop_zero, List.reverse_cons, List.reverse_nil, List.nil_append, List.cons_append, List.append_nil, List.length_cons, List.length_nil, List.map_cons, List.map_nil, List.sum_cons, List.sum_nil, Option.toList_some, Option.toList_none, Nat.zero_add, Nat.add_zero, Bool.or_false, Bool.false_or, Bool.or_true, Bool.true_or, Bool.not_true, Bool.not_false, ge_iff_le, Fin.isValue, Fin.val_zero, Fin.val_one, Fin.val_two, true_and, and_true, true_implies, false_implies, forall_const, if_true, if_false, ite_true, ite_false, reduceIte, reduceCtorEq, true_or, or_true, and_self, implies_true, not_false_eq_true, not_true_eq_false, Nat.le_refl, Nat.zero_le, and_false, false_and, Nat.reduceAdd, Nat.reduceSub, Nat.reduceLT, Nat.reduceLeDiff, Nat.reduceMul, Nat.reduceEqDiff, Int.reduceAdd, Int.reduceNeg, Int.reduceToNat, Int.reduceLE, Int.reduceNatCast, Int.reduceSub, Int.reduceLT, Int.reduceEq, List.replicate_zero, List.replicate_succ, Int.reduceNatCast', Int32.reduceOfInt, Int32.reduceLT, Int32.reduceLE, Int32.reduceAdd, Int32.reduceSub, Int32.reduceMul, Int32.reduceToInt, Int32.reduceToNatClampNeg]
  repeat' (first | (intro _) | (apply And.intro))
  all_goals (first | exact hT | (simp only [f_hold, *, if_true, if_false, reduceIte, not_true_eq_false, not_false_eq_true] at hT; exact hT) | (simp [f_hold, *] at hT; exact hT) | (simp [f_hold, *] at hT ⊢; exact hT) | (simp_all [f_hold]; done))
def f_all (t v m x : Int32) : Int32 := if t = -1 then 1 else if f_cmp t (v &&& m) (x &&& m) = 0 then 0 else 1
def T_ST_allows : ClassId → ClassId → zT := fun _ _ as h K => match as with
  | [.ref i, .int x] => zob h i 3 (fun fs => match fs with
    | [.int t, .int v, .int m, _, _, _, _] => K (.inl (some (.int (f_all t v m x)))) h
    | _ => False)
  | _ => False
def E_ST_allows : ClassId → ClassId → Nat → Nat → Option zEn := fun cI cL kd i => match kd, i with
  | 0, 21 => some (3, none, true, true, 0, 0, T_PT_compares cI cL)
  | _, _ => none
theorem E_ST_allows_k : (∀ cI cL, E_ST_allows cI cL 0 21 = some (3, none, true, true, 0, 0, T_PT_compares cI cL)) := fun _ _ => rfl
set_option maxHeartbeats 4000000 in
set_option maxRecDepth 100000 in
theorem C_ST_allows {l : Launch} (hl : l.stackTraces = false) : zC l y_ST_allows (Cond.code y_ST_allows prog_6_method_2_code 2 (some .boolean) :: wsG) (rmL 2 0 0) zcl true 0 0 T_ST_allows := by
  refine zC_of (G := G_ST) (E := E_ST_allows) (X := zXn) (SL := zSn) (NW := zNn) (CS := zCn) (ctor := false) hl (by decide) rfl rfl rfl G_ST_ok (fun z => by cases z) (fun _ _ z => by cases z) (fun _ _ _ _ z => by cases z) (List.mem_cons_of_mem _ ka_i) (fun _ _ _ z => by cases z) (fun _ z => by cases z) (by
    intro p e s m args below meth c D A cI cL hx hb hml hown hts hK hA hEX kd idx en hE
    unfold E_ST_allows at hE
    split at hE
    · cases hE; exact zRow_S (C_PT_compares hl) rfl (Or.inl ⟨_, _, rfl⟩) hx hb hml hown hts hK hA hEX (hin_c kb_PT_compares) (List.mem_cons_of_mem _ kn_PT) (List.mem_cons_of_mem _ ks_PT_compares) (Or.inr ⟨_, List.mem_cons_of_mem _ km_ST_21⟩) (by decide) (by decide) (by decide) rfl rfl
    · cases hE) ?_
  intro cI cL as h K hT
  match as, hT with
  | [.ref i, .int x], hT =>
  obtain ⟨fs, hi, hT⟩ := zob_s hT
  match fs, hi, hT with
  | [.int t, .int v, .int m, u0, u1, u2, u3], hi, hT =>
  have hT : K (.inl (some (.int (f_all t v m x)))) h := hT
  refine ⟨by simp [Value.category], by simp, fun Jd hc => zw_sound (J := fun _ => none) hc (fun _ _ z => by cases z) 26 0 _ _ _ _ _ _ ?_⟩
  simp (maxSteps := 4000000) only [zlc, zif0, zf3, D_ST_allows, G_ST_k, E_ST_allows_k, T_PT_compares, Classical.not_not, hi, zw_S, zk_iconst, zk_bipush, zk_sipush, zk_ldc, zk_ldc_w, zk_aconst_null, zk_iload_n, zk_iload, zk_aload_n, zk_aload, zk_istore_n, zk_istore, zk_astore_n, zk_astore, zk_iinc, zk_iadd, zk_isub, zk_imul, zk_idiv, zk_iand, zk_ior, zk_ixor, zk_ishl, zk_ishr, zk_iushr, zk_i2l, zk_lcmp, zk_dup, zk_pop, zk_dup_x1, zk_dup2, zk_dup_x2, zk_goto, zk_ifCond, zk_if_icmp, zk_tableswitch, zk_getfield, zk_putfield, zk_iaload, zk_iastore, zk_laload, zk_lastore, zk_arraylength, zk_invokestatic, zk_invokevirtual, zk_invokespecial, zk_new, zk_newarray, zk_ireturn, zk_areturn, zk_return_, zi1_k, zi2_k, zr1_k, zri_k, zrii_k, zril_k, zvr_k, zl2_k, zv1_k, zv2_k, zv3_k, zli_k, zlr_k, zob_k, zai_k, zal_k, zfv_k, zlim_k, zlrm_k, zobm_k, zaim_k, zalm_k, zfvm_k, zgetf_k, zput_k, zcal_k, zrv_n, zrv_s, zswT_n, zswT_c, zgo_k, zcc_eq, zcc_ne, zcc_lt, zcc_ge, zcc_gt, zcc_le, zldj_k, zexc_k, znew_k, zial_k, zct_i, zct_l, zct_r, zct_n, zKK_r, zKK_x, znr_i, znr_0, znr_1, znr_v, znr_a, znr_o, znar_i, znar_r, znar_a, zfit_i, zfit_r, zfit_a, zbc, zlit, eq_self, List.getElem?_cons_zero, List.getElem?_cons_succ, List.set_cons_zero, List.set_cons_succ, List.take_succ_cons, List.take_zero, List.drop_succ_cons, List.drop_zero, List.reverse_cons, List.reverse_nil, List.nil_append, List.cons_append, List.append_nil, List.length_cons, List.length_nil, List.map_cons, List.map_nil, List.sum_cons, List.sum_nil, Option.toList_some, Option.toList_none, Nat.zero_add, Nat.add_zero, Bool.or_false, Bool.false_or, Bool.or_true, Bool.true_or, Bool.not_true, Bool.not_false, ge_iff_le, Fin.isValue, Fin.val_zero, Fin.val_one, Fin.val_two, true_and, and_true, true_implies, false_implies, forall_const, if_true, if_false, ite_true, ite_false, reduceIte, reduceCtorEq, true_or, or_true, and_self, implies_true, not_false_eq_true, not_true_eq_false, Nat.le_refl, Nat.zero_le, and_false, false_and, Nat.reduceAdd, Nat.reduceSub, Nat.reduceLT, Nat.reduceLeDiff, Nat.reduceMul, Nat.reduceEqDiff, Int.reduceAdd, Int.reduceNeg, Int.reduceToNat, Int.reduceLE, Int.reduceNatCast, Int.reduceSub, Int.reduceLT, Int.reduceEq, List.replicate_zero, List.replicate_succ, Int.reduceNatCast', Int32.reduceOfInt, Int32.reduceLT, Int32.reduceLE, Int32.reduceAdd, Int32.reduceSub, Int32.reduceMul, Int32.reduceToInt, Int32.reduceToNatClampNeg]
  repeat' (first | (intro _) | (apply And.intro))
  all_goals (first | exact hT | (simp only [f_all, *, if_true, if_false, reduceIte, not_true_eq_false, not_false_eq_true] at hT; exact hT) | (simp [f_all, *] at hT; exact hT) | (simp [f_all, *] at hT ⊢; exact hT) | (simp_all [f_all]; done))
def f_deed (v x d : Int32) : Int32 := if d = 1 then 0 else if d = 2 then v else if d = 3 then (if 255 < x + 1 then 255 else x + 1) else if d = 4 then (if x - 1 < 0 then 0 else x - 1) else if d = 5 then (x ^^^ (-1)) &&& 255 else if d = 6 then (x + 1) &&& 255 else if d = 7 then (x - 1) &&& 255 else x
def T_ST_afterDeed : ClassId → ClassId → zT := fun _ _ as h K => match as with
  | [.ref i, .int x, .int d] => zob h i 3 (fun fs => match fs with
    | [_, .int v, _, _, _, _, _] => K (.inl (some (.int (f_deed v x d)))) h
    | _ => False)
  | _ => False
def E_ST_afterDeed : ClassId → ClassId → Nat → Nat → Option zEn := fun cI cL kd i => match kd, i with
  | 0, 36 => some (2, none, true, true, 0, 0, zT_min)
  | 0, 41 => some (2, none, true, true, 0, 0, zT_max)
  | _, _ => none
theorem E_ST_afterDeed_k : (∀ cI cL, E_ST_afterDeed cI cL 0 36 = some (2, none, true, true, 0, 0, zT_min)) ∧ (∀ cI cL, E_ST_afterDeed cI cL 0 41 = some (2, none, true, true, 0, 0, zT_max)) := ⟨fun _ _ => rfl, fun _ _ => rfl⟩
set_option maxHeartbeats 4000000 in
set_option maxRecDepth 100000 in
theorem C_ST_afterDeed {l : Launch} (hl : l.stackTraces = false) : zC l y_ST_afterDeed (Cond.code y_ST_afterDeed prog_6_method_4_code 3 (some .int) :: wsG) (rmL 1 0 0) zcl true 0 0 T_ST_afterDeed := by
  refine zC_of (G := G_ST) (E := E_ST_afterDeed) (X := zXn) (SL := zSn) (NW := zNn) (CS := zCn) (ctor := false) hl (by decide) rfl rfl rfl G_ST_ok (fun z => by cases z) (fun _ _ z => by cases z) (fun _ _ _ _ z => by cases z) (List.mem_cons_of_mem _ ka_i) (fun _ _ _ z => by cases z) (fun _ z => by cases z) (by
    intro p e s m args below meth c D A cI cL hx hb hml hown hts hK hA hEX kd idx en hE
    unfold E_ST_afterDeed at hE
    split at hE
    · cases hE; exact zRow_min hx hb hml hown hts (List.mem_cons_of_mem _ km_ST_36) (List.mem_cons_of_mem _ kj_s_min) (List.mem_cons_of_mem _ kj_n) (List.mem_cons_of_mem _ kj_c_min) (by decide) (by decide)
    · cases hE; exact zRow_max hx hb hml hown hts (List.mem_cons_of_mem _ km_ST_41) (List.mem_cons_of_mem _ kj_s_max) (List.mem_cons_of_mem _ kj_n) (List.mem_cons_of_mem _ kj_c_max) (by decide) (by decide)
    · cases hE) ?_
  intro cI cL as h K hT
  match as, hT with
  | [.ref i, .int x, .int d], hT =>
  obtain ⟨fs, hi, hT⟩ := zob_s hT
  match fs, hi, hT with
  | [u0, .int v, u1, u2, u3, u4, u5], hi, hT =>
  have hT : K (.inl (some (.int (f_deed v x d)))) h := hT
  refine ⟨by simp [Value.category], by simp, fun Jd hc => zw_sound (J := fun _ => none) hc (fun _ _ z => by cases z) 44 0 _ _ _ _ _ _ ?_⟩
  simp (maxSteps := 4000000) only [zlc, zif0, zf3, D_ST_afterDeed, G_ST_k, E_ST_afterDeed_k, zT_min, zT_max, zti, Classical.not_not, hi, zw_S, zk_iconst, zk_bipush, zk_sipush, zk_ldc, zk_ldc_w, zk_aconst_null, zk_iload_n, zk_iload, zk_aload_n, zk_aload, zk_istore_n, zk_istore, zk_astore_n, zk_astore, zk_iinc, zk_iadd, zk_isub, zk_imul, zk_idiv, zk_iand, zk_ior, zk_ixor, zk_ishl, zk_ishr, zk_iushr, zk_i2l, zk_lcmp, zk_dup, zk_pop, zk_dup_x1, zk_dup2, zk_dup_x2, zk_goto, zk_ifCond, zk_if_icmp, zk_tableswitch, zk_getfield, zk_putfield, zk_iaload, zk_iastore, zk_laload, zk_lastore, zk_arraylength, zk_invokestatic, zk_invokevirtual, zk_invokespecial, zk_new, zk_newarray, zk_ireturn, zk_areturn, zk_return_, zi1_k, zi2_k, zr1_k, zri_k, zrii_k, zril_k, zvr_k, zl2_k, zv1_k, zv2_k, zv3_k, zli_k, zlr_k, zob_k, zai_k, zal_k, zfv_k, zlim_k, zlrm_k, zobm_k, zaim_k, zalm_k, zfvm_k, zgetf_k, zput_k, zcal_k, zrv_n, zrv_s, zswT_n, zswT_c, zgo_k, zcc_eq, zcc_ne, zcc_lt, zcc_ge, zcc_gt, zcc_le, zldj_k, zexc_k, znew_k, zial_k, zct_i, zct_l, zct_r, zct_n, zKK_r, zKK_x, znr_i, znr_0, znr_1, znr_v, znr_a, znr_o, znar_i, znar_r, znar_a, zfit_i, zfit_r, zfit_a, zbc, zlit, eq_self, List.getElem?_cons_zero, List.getElem?_cons_succ, List.set_cons_zero, List.set_cons_succ, List.take_succ_cons, List.take_zero, List.drop_succ_cons, List.drop_zero, List.reverse_cons, List.reverse_nil, List.nil_append, List.cons_append, List.append_nil, List.length_cons, List.length_nil, List.map_cons, List.map_nil, List.sum_cons, List.sum_nil, Option.toList_some, Option.toList_none, Nat.zero_add, Nat.add_zero, Bool.or_false, Bool.false_or, Bool.or_true, Bool.true_or, Bool.not_true, Bool.not_false, ge_iff_le, Fin.isValue, Fin.val_zero, Fin.val_one, Fin.val_two, true_and, and_true, true_implies, false_implies, forall_const, if_true, if_false, ite_true, ite_false, reduceIte, reduceCtorEq, true_or, or_true, and_self, implies_true, not_false_eq_true, not_true_eq_false, Nat.le_refl, Nat.zero_le, and_false, false_and, Nat.reduceAdd, Nat.reduceSub, Nat.reduceLT, Nat.reduceLeDiff, Nat.reduceMul, Nat.reduceEqDiff, Int.reduceAdd, Int.reduceNeg, Int.reduceToNat, Int.reduceLE, Int.reduceNatCast, Int.reduceSub, Int.reduceLT, Int.reduceEq, List.replicate_zero, List.replicate_succ, Int.reduceNatCast', Int32.reduceOfInt, Int32.reduceLT, Int32.reduceLE, Int32.reduceAdd, Int32.reduceSub, Int32.reduceMul, Int32.reduceToInt, Int32.reduceToNatClampNeg]
  repeat' (first | (intro _) | (apply And.intro))
  all_goals (first | exact hT | (simp only [f_deed, *, if_true, if_false, reduceIte, not_true_eq_false, not_false_eq_true] at hT; exact hT) | (simp [f_deed, *] at hT; exact hT) | (simp [f_deed, *] at hT ⊢; exact hT) | (simp_all [f_deed]; done))
def T_ST_changed : ClassId → ClassId → zT := fun _ _ as h K => match as with
  | [.ref i, .int x, .int d] => zob h i 3 (fun fs => match fs with
    | [.int t, .int v, _, .int w, _, _, _] => K (.inl (some (.int (if t = -1 then x else f_mrg x (f_deed v x d) w)))) h
    | _ => False)
  | _ => False
def E_ST_changed : ClassId → ClassId → Nat → Nat → Option zEn := fun cI cL kd i => match kd, i with
  | 1, 25 => some (3, some 3, true, true, 0, 0, T_ST_afterDeed cI cL)
  | 0, 32 => some (3, none, true, true, 0, 0, T_PT_merged cI cL)
  | _, _ => none
theorem E_ST_changed_k : (∀ cI cL, E_ST_changed cI cL 1 25 = some (3, some 3, true, true, 0, 0, T_ST_afterDeed cI cL)) ∧ (∀ cI cL, E_ST_changed cI cL 0 32 = some (3, none, true, true, 0, 0, T_PT_merged cI cL)) := ⟨fun _ _ => rfl, fun _ _ => rfl⟩
set_option maxHeartbeats 4000000 in
set_option maxRecDepth 100000 in
theorem C_ST_changed {l : Launch} (hl : l.stackTraces = false) : zC l y_ST_changed (Cond.code y_ST_changed prog_6_method_3_code 3 (some .int) :: wsG) (rmL 2 0 0) zcl true 0 0 T_ST_changed := by
  refine zC_of (G := G_ST) (E := E_ST_changed) (X := zXn) (SL := zSn) (NW := zNn) (CS := zCn) (ctor := false) hl (by decide) rfl rfl rfl G_ST_ok (fun z => by cases z) (fun _ _ z => by cases z) (fun _ _ _ _ z => by cases z) (List.mem_cons_of_mem _ ka_i) (fun _ _ _ z => by cases z) (fun _ z => by cases z) (by
    intro p e s m args below meth c D A cI cL hx hb hml hown hts hK hA hEX kd idx en hE
    unfold E_ST_changed at hE
    split at hE
    · cases hE; exact zRow_V (C_ST_afterDeed hl) rfl (Or.inl ⟨_, _, rfl⟩) hx hb hml hown hts hK hA hEX (hin_c kb_ST_afterDeed) (List.mem_cons_of_mem _ kn_ST) (List.mem_cons_of_mem _ ki_ST_afterDeed) (List.mem_cons_of_mem _ kv_ST_afterDeed) rfl (Or.inl (List.mem_cons_of_mem _ km_ST_25)) (by decide) (by decide) (by decide) rfl rfl
    · cases hE; exact zRow_S (C_PT_merged hl) rfl (Or.inl ⟨_, _, rfl⟩) hx hb hml hown hts hK hA hEX (hin_c kb_PT_merged) (List.mem_cons_of_mem _ kn_PT) (List.mem_cons_of_mem _ ks_PT_merged) (Or.inr ⟨_, List.mem_cons_of_mem _ km_ST_32⟩) (by decide) (by decide) (by decide) rfl rfl
    · cases hE) ?_
  intro cI cL as h K hT
  match as, hT with
  | [.ref i, .int x, .int d], hT =>
  obtain ⟨fs, hi, hT⟩ := zob_s hT
  match fs, hi, hT with
  | [.int t, .int v, u0, .int w, u1, u2, u3], hi, hT =>
  have hT : K (.inl (some (.int (if t = -1 then x else f_mrg x (f_deed v x d) w)))) h := hT
  refine ⟨by simp [Value.category], by simp, fun Jd hc => zw_sound (J := fun _ => none) hc (fun _ _ z => by cases z) 20 0 _ _ _ _ _ _ ?_⟩
  simp (maxSteps := 4000000) only [zlc, zif0, zf3, D_ST_changed, G_ST_k, E_ST_changed_k, T_ST_afterDeed, T_PT_merged, Classical.not_not, hi, zw_S, zk_iconst, zk_bipush, zk_sipush, zk_ldc, zk_ldc_w, zk_aconst_null, zk_iload_n, zk_iload, zk_aload_n, zk_aload, zk_istore_n, zk_istore, zk_astore_n, zk_astore, zk_iinc, zk_iadd, zk_isub, zk_imul, zk_idiv, zk_iand, zk_ior, zk_ixor, zk_ishl, zk_ishr, zk_iushr, zk_i2l, zk_lcmp, zk_dup, zk_pop, zk_dup_x1, zk_dup2, zk_dup_x2, zk_goto, zk_ifCond, zk_if_icmp, zk_tableswitch, zk_getfield, zk_putfield, zk_iaload, zk_iastore, zk_laload, zk_lastore, zk_arraylength, zk_invokestatic, zk_invokevirtual, zk_invokespecial, zk_new, zk_newarray, zk_ireturn, zk_areturn, zk_return_, zi1_k, zi2_k, zr1_k, zri_k, zrii_k, zril_k, zvr_k, zl2_k, zv1_k, zv2_k, zv3_k, zli_k, zlr_k, zob_k, zai_k, zal_k, zfv_k, zlim_k, zlrm_k, zobm_k, zaim_k, zalm_k, zfvm_k, zgetf_k, zput_k, zcal_k, zrv_n, zrv_s, zswT_n, zswT_c, zgo_k, zcc_eq, zcc_ne, zcc_lt, zcc_ge, zcc_gt, zcc_le, zldj_k, zexc_k, znew_k, zial_k, zct_i, zct_l, zct_r, zct_n, zKK_r, zKK_x, znr_i, znr_0, znr_1, znr_v, znr_a, znr_o, znar_i, znar_r, znar_a, zfit_i, zfit_r, zfit_a, zbc, zlit, eq_self, List.getElem?_cons_zero, List.getElem?_cons_succ, List.set_cons_zero, List.set_cons_succ, List.take_succ_cons, List.take_zero, List.drop_succ_cons, List.drop_zero, List.reverse_cons, List.reverse_nil, List.nil_append, List.cons_append, List.append_nil, List.length_cons, List.length_nil, List.map_cons, List.map_nil, List.sum_cons, List.sum_nil, Option.toList_some, Option.toList_none, Nat.zero_add, Nat.add_zero, Bool.or_false, Bool.false_or, Bool.or_true, Bool.true_or, Bool.not_true, Bool.not_false, ge_iff_le, Fin.isValue, Fin.val_zero, Fin.val_one, Fin.val_two, true_and, and_true, true_implies, false_implies, forall_const, if_true, if_false, ite_true, ite_false, reduceIte, reduceCtorEq, true_or, or_true, and_self, implies_true, not_false_eq_true, not_true_eq_false, Nat.le_refl, Nat.zero_le, and_false, false_and, Nat.reduceAdd, Nat.reduceSub, Nat.reduceLT, Nat.reduceLeDiff, Nat.reduceMul, Nat.reduceEqDiff, Int.reduceAdd, Int.reduceNeg, Int.reduceToNat, Int.reduceLE, Int.reduceNatCast, Int.reduceSub, Int.reduceLT, Int.reduceEq, List.replicate_zero, List.replicate_succ, Int.reduceNatCast', Int32.reduceOfInt, Int32.reduceLT, Int32.reduceLE, Int32.reduceAdd, Int32.reduceSub, Int32.reduceMul, Int32.reduceToInt, Int32.reduceToNatClampNeg]
  repeat' (first | (intro _) | (apply And.intro))
  all_goals (first | exact hT | (simp only [*, if_true, if_false, reduceIte, not_true_eq_false, not_false_eq_true] at hT; exact hT) | (simp [*] at hT; exact hT) | (simp [*] at hT ⊢; exact hT) | (simp_all []; done))
def f_fac (c n p q s : Int32) : Int32 := if n = 1 then 255 else if n = 2 then f_ch p s else if n = 3 then 255 - f_ch p s else if n = 4 then f_ch q s else if n = 5 then 255 - f_ch q s else if n = 6 then f_ch p 24 else if n = 7 then 255 - f_ch p 24 else if n = 8 then f_ch q 24 else if n = 9 then 255 - f_ch q 24 else if n = 10 then f_ch c s else if n = 11 then 255 - f_ch c s else if n = 12 then f_ch c 24 else if n = 13 then 255 - f_ch c 24 else if n = 14 then (if s = 24 then 255 else (if 255 - f_ch q 24 < f_ch p 24 then 255 - f_ch q 24 else f_ch p 24)) else 0
def T_BL_factor : ClassId → ClassId → zT := fun _ _ as h K => match as with
  | [.ref i, .int n, .int p, .int q, .int s] => zob h i 4 (fun fs => match fs with
    | [_, _, _, _, _, _, .int c] => K (.inl (some (.int (f_fac c n p q s)))) h
    | _ => False)
  | _ => False
def E_BL_factor : ClassId → ClassId → Nat → Nat → Option zEn := fun cI cL kd i => match kd, i with
  | 0, 21 => some (2, none, true, true, 0, 0, T_CO_channel cI cL)
  | 0, 48 => some (2, none, true, true, 0, 0, zT_min)
  | _, _ => none
theorem E_BL_factor_k : (∀ cI cL, E_BL_factor cI cL 0 21 = some (2, none, true, true, 0, 0, T_CO_channel cI cL)) ∧ (∀ cI cL, E_BL_factor cI cL 0 48 = some (2, none, true, true, 0, 0, zT_min)) := ⟨fun _ _ => rfl, fun _ _ => rfl⟩
set_option maxHeartbeats 4000000 in
set_option maxRecDepth 100000 in
theorem C_BL_factor {l : Launch} (hl : l.stackTraces = false) : zC l y_BL_factor (Cond.code y_BL_factor prog_2_method_4_code 7 (some .int) :: wsG) (rmL 2 0 0) zcl true 0 0 T_BL_factor := by
  refine zC_of (G := G_BL) (E := E_BL_factor) (X := zXn) (SL := zSn) (NW := zNn) (CS := zCn) (ctor := false) hl (by decide) rfl rfl rfl G_BL_ok (fun z => by cases z) (fun _ _ z => by cases z) (fun _ _ _ _ z => by cases z) (List.mem_cons_of_mem _ ka_i) (fun _ _ _ z => by cases z) (fun _ z => by cases z) (by
    intro p e s m args below meth c D A cI cL hx hb hml hown hts hK hA hEX kd idx en hE
    unfold E_BL_factor at hE
    split at hE
    · cases hE; exact zRow_S (C_CO_channel hl) rfl (Or.inl ⟨_, _, rfl⟩) hx hb hml hown hts hK hA hEX (hin_c kb_CO_channel) (List.mem_cons_of_mem _ kn_CO) (List.mem_cons_of_mem _ ks_CO_channel) (Or.inr ⟨_, List.mem_cons_of_mem _ km_BL_21⟩) (by decide) (by decide) (by decide) rfl rfl
    · cases hE; exact zRow_min hx hb hml hown hts (List.mem_cons_of_mem _ km_BL_48) (List.mem_cons_of_mem _ kj_s_min) (List.mem_cons_of_mem _ kj_n) (List.mem_cons_of_mem _ kj_c_min) (by decide) (by decide)
    · cases hE) ?_
  intro cI cL as h K hT
  match as, hT with
  | [.ref i, .int n, .int p, .int q, .int s], hT =>
  obtain ⟨fs, hi, hT⟩ := zob_s hT
  match fs, hi, hT with
  | [u0, u1, u2, u3, u4, u5, .int c], hi, hT =>
  have hT : K (.inl (some (.int (f_fac c n p q s)))) h := hT
  refine ⟨by simp [Value.category], by simp, fun Jd hc => zw_sound (J := fun _ => none) hc (fun _ _ z => by cases z) 86 0 _ _ _ _ _ _ ?_⟩
  simp (maxSteps := 4000000) only [zlc, zif0, zf3, D_BL_factor_0, D_BL_factor_1, G_BL_k, E_BL_factor_k, T_CO_channel, zT_min, zti, Classical.not_not, hi, zw_S, zk_iconst, zk_bipush, zk_sipush, zk_ldc, zk_ldc_w, zk_aconst_null, zk_iload_n, zk_iload, zk_aload_n, zk_aload, zk_istore_n, zk_istore, zk_astore_n, zk_astore, zk_iinc, zk_iadd, zk_isub, zk_imul, zk_idiv, zk_iand, zk_ior, zk_ixor, zk_ishl, zk_ishr, zk_iushr, zk_i2l, zk_lcmp, zk_dup, zk_pop, zk_dup_x1, zk_dup2, zk_dup_x2, zk_goto, zk_ifCond, zk_if_icmp, zk_tableswitch, zk_getfield, zk_putfield, zk_iaload, zk_iastore, zk_laload, zk_lastore, zk_arraylength, zk_invokestatic, zk_invokevirtual, zk_invokespecial, zk_new, zk_newarray, zk_ireturn, zk_areturn, zk_return_, zi1_k, zi2_k, zr1_k, zri_k, zrii_k, zril_k, zvr_k, zl2_k, zv1_k, zv2_k, zv3_k, zli_k, zlr_k, zob_k, zai_k, zal_k, zfv_k, zlim_k, zlrm_k, zobm_k, zaim_k, zalm_k, zfvm_k, zgetf_k, zput_k, zcal_k, zrv_n, zrv_s, zswT_n, zswT_c, zgo_k, zcc_eq, zcc_ne, zcc_lt, zcc_ge, zcc_gt, zcc_le, zldj_k, zexc_k, znew_k, zial_k, zct_i, zct_l, zct_r, zct_n, zKK_r, zKK_x, znr_i, znr_0, znr_1, znr_v, znr_a, znr_o, znar_i, znar_r, znar_a, zfit_i, zfit_r, zfit_a, zbc, zlit, eq_self, List.getElem?_cons_zero, List.getElem?_cons_succ, List.set_cons_zero, List.set_cons_succ, List.take_succ_cons, List.take_zero, List.drop_succ_cons, List.drop_zero, List.reverse_cons, List.reverse_nil, List.nil_append, List.cons_append, List.append_nil, List.length_cons, List.length_nil, List.map_cons, List.map_nil, List.sum_cons, List.sum_nil, Option.toList_some, Option.toList_none, Nat.zero_add, Nat.add_zero, Bool.or_false, Bool.false_or, Bool.or_true, Bool.true_or, Bool.not_true, Bool.not_false, ge_iff_le, Fin.isValue, Fin.val_zero, Fin.val_one, Fin.val_two, true_and, and_true, true_implies, false_implies, forall_const, if_true, if_false, ite_true, ite_false, reduceIte, reduceCtorEq, true_or, or_true, and_self, implies_true, not_false_eq_true, not_true_eq_false, Nat.le_refl, Nat.zero_le, and_false, false_and, Nat.reduceAdd, Nat.reduceSub, Nat.reduceLT, Nat.reduceLeDiff, Nat.reduceMul, Nat.reduceEqDiff, Int.reduceAdd, Int.reduceNeg, Int.reduceToNat, Int.reduceLE, Int.reduceNatCast, Int.reduceSub, Int.reduceLT, Int.reduceEq, List.replicate_zero, List.replicate_succ, Int.reduceNatCast', Int32.reduceOfInt, Int32.reduceLT, Int32.reduceLE, Int32.reduceAdd, Int32.reduceSub, Int32.reduceMul, Int32.reduceToInt, Int32.reduceToNatClampNeg]
  repeat' (first | (intro _) | (apply And.intro))
  all_goals (first | exact hT | (simp only [f_fac, *, if_true, if_false, reduceIte, not_true_eq_false, not_false_eq_true] at hT; exact hT) | (simp [f_fac, *] at hT; exact hT) | (simp [f_fac, *] at hT ⊢; exact hT) | (simp_all [f_fac]; done))

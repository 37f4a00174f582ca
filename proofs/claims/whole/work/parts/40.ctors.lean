def T_SC_init : ClassId → ClassId → zT := fun _ _ as h K => match as with
  | [.ref i] => zob h i 2 (fun fs => match fs with
    | [u0, u1, u2, u3] => K (.inl none) (h.set i (.inr (2, [.int 0, .int 0, .int (-1), .int 0])))
    | _ => False)
  | _ => False
theorem T_SC_init_r {cI cL : ClassId} : ∀ as h K, T_SC_init cI cL as h K → ∃ i as', as = .ref i :: as' := by
  intro as h K hT
  match as, hT with
  | [.ref i], _ => exact ⟨i, [], rfl⟩
def E_SC_init : ClassId → ClassId → Nat → Nat → Option zEn := fun cI cL kd i => match kd, i with
  | 2, 1 => some (1, none, true, true, 0, 0, zT_obj)
  | _, _ => none
theorem E_SC_init_k : (∀ cI cL, E_SC_init cI cL 2 1 = some (1, none, true, true, 0, 0, zT_obj)) := fun _ _ => rfl
set_option maxHeartbeats 4000000 in
set_option maxRecDepth 100000 in
theorem C_SC_init {l : Launch} (hl : l.stackTraces = false) : zC l y_SC_init (Cond.code y_SC_init prog_5_method_1_code 1 none :: wsG) (rmL 1 0 0) zcl false 0 0 T_SC_init := by
  refine zC_of (G := G_SC_c) (E := E_SC_init) (X := zXn) (SL := zSn) (NW := zNn) (CS := zCn) (ctor := true) hl (by decide) rfl rfl rfl G_SC_c_ok (fun z => rfl) (fun _ _ z => by cases z) (fun _ _ _ _ z => by cases z) (List.mem_cons_of_mem _ ka_i) (fun _ _ _ z => by cases z) (fun _ z => by cases z) (by
    intro p e s m args below meth c D A cI cL hx hb hml hown hts hK hA hEX kd idx en hE
    unfold E_SC_init at hE
    split at hE
    · cases hE; exact zRow_obj hx hb hml hown hts (List.mem_cons_of_mem _ km_SC_1) (List.mem_cons_of_mem _ ko_i) (List.mem_cons_of_mem _ ko_c) (by decide) (by decide)
    · cases hE) ?_
  intro cI cL as h K hT
  match as, hT with
  | [.ref i], hT =>
  obtain ⟨fs, hi, hT⟩ := zob_s hT
  match fs, hi, hT with
  | [u0, u1, u2, u3], hi, hT =>
  have hlt : i < h.length := (List.getElem?_eq_some_iff.mp hi).1
  have hg : ∀ x, (h.set i x)[i]? = some x := fun x => List.getElem?_set_self hlt
  have hT : K (.inl none) (h.set i (.inr (2, [.int 0, .int 0, .int (-1), .int 0]))) := hT
  refine ⟨by simp [Value.category], by simp, fun Jd hc => zw_sound (J := fun _ => none) hc (fun _ _ z => by cases z) 20 0 _ _ _ _ _ _ ?_⟩
  simp (maxSteps := 4000000) only [zlc, zif0, zf3, D_SC_init, G_SC_c_k, E_SC_init_k, zT_obj, Classical.not_not, hi, hg, List.set_set, List.length_set, zw_S, zk_iconst, zk_bipush, zk_sipush, zk_ldc, zk_ldc_w, zk_aconst_null, zk_iload_n, zk_iload, zk_aload_n, zk_aload, zk_istore_n, zk_istore, zk_astore_n, zk_astore, zk_iinc, zk_iadd, zk_isub, zk_imul, zk_idiv, zk_iand, zk_ior, zk_ixor, zk_ishl, zk_ishr, zk_iushr, zk_i2l, zk_lcmp, zk_dup, zk_pop, zk_dup_x1, zk_dup2, zk_dup_x2, zk_goto, zk_ifCond, zk_if_icmp, zk_tableswitch, zk_getfield, zk_putfield, zk_iaload, zk_iastore, zk_laload, zk_lastore, zk_arraylength, zk_invokestatic, zk_invokevirtual, zk_invokespecial, zk_new, zk_newarray, zk_ireturn, zk_areturn, zk_return_, zi1_k, zi2_k, zr1_k, zri_k, zrii_k, zril_k, zvr_k, zl2_k, zv1_k, zv2_k, zv3_k, zli_k, zlr_k, zob_k, zai_k, zal_k, zfv_k, zlim_k, zlrm_k, zobm_k, zaim_k, zalm_k, zfvm_k, zgetf_k, zput_k, zcal_k, zrv_n, zrv_s, zswT_n, zswT_c, zgo_k, zcc_eq, zcc_ne, zcc_lt, zcc_ge, zcc_gt, zcc_le, zldj_k, zexc_k, znew_k, zial_k, zct_i, zct_l, zct_r, zct_n, zKK_r, zKK_x, znr_i, znr_0, znr_1, znr_v, znr_a, znr_o, znar_i, znar_r, znar_a, zfit_i, zfit_r, zfit_a, zbc, zlit, eq_self, List.getElem?_cons_zero, List.getElem?_cons_succ, List.set_cons_zero, List.set_cons_succ, List.take_succ_cons, List.take_zero, List.drop_succ_cons, List.drop_zero, List.reverse_cons, List.reverse_nil, List.nil_append, List.cons_append, List.append_nil, List.length_cons, List.length_nil, List.map_cons, List.map_nil, List.sum_cons, List.sum_nil, Option.toList_some, Option.toList_none, Nat.zero_add, Nat.add_zero, Bool.or_false, Bool.false_or, Bool.or_true, Bool.true_or, Bool.not_true, Bool.not_false, ge_iff_le, Fin.isValue, Fin.val_zero, Fin.val_one, Fin.val_two, true_and, and_true, true_implies, false_implies, forall_const, if_true, if_false, ite_true, ite_false, reduceIte, reduceCtorEq, true_or, or_true, and_self, implies_true, not_false_eq_true, not_true_eq_false, Nat.le_refl, Nat.zero_le, and_false, false_and, Nat.reduceAdd, Nat.reduceSub, Nat.reduceLT, Nat.reduceLeDiff, Nat.reduceMul, Nat.reduceEqDiff, Int.reduceAdd, Int.reduceNeg, Int.reduceToNat, Int.reduceLE, Int.reduceNatCast, Int.reduceSub, Int.reduceLT, Int.reduceEq, List.replicate_zero, List.replicate_succ, Int.reduceNatCast', Int32.reduceOfInt, Int32.reduceLT, Int32.reduceLE, Int32.reduceAdd, Int32.reduceSub, Int32.reduceMul, Int32.reduceToInt, Int32.reduceToNatClampNeg]
  exact hT
def T_ST_init : ClassId → ClassId → zT := fun _ _ as h K => match as with
  | [.ref i] => zob h i 3 (fun fs => match fs with
    | [u0, u1, u2, u3, u4, u5, u6] => K (.inl none) (h.set i (.inr (3, [.int (-1), u1, u2, u3, u4, u5, u6])))
    | _ => False)
  | _ => False
theorem T_ST_init_r {cI cL : ClassId} : ∀ as h K, T_ST_init cI cL as h K → ∃ i as', as = .ref i :: as' := by
  intro as h K hT
  match as, hT with
  | [.ref i], _ => exact ⟨i, [], rfl⟩
def E_ST_init : ClassId → ClassId → Nat → Nat → Option zEn := fun cI cL kd i => match kd, i with
  | 2, 3 => some (1, none, true, true, 0, 0, zT_obj)
  | _, _ => none
theorem E_ST_init_k : (∀ cI cL, E_ST_init cI cL 2 3 = some (1, none, true, true, 0, 0, zT_obj)) := fun _ _ => rfl
set_option maxHeartbeats 4000000 in
set_option maxRecDepth 100000 in
theorem C_ST_init {l : Launch} (hl : l.stackTraces = false) : zC l y_ST_init (Cond.code y_ST_init prog_6_method_1_code 1 none :: wsG) (rmL 1 0 0) zcl false 0 0 T_ST_init := by
  refine zC_of (G := G_ST_c) (E := E_ST_init) (X := zXn) (SL := zSn) (NW := zNn) (CS := zCn) (ctor := true) hl (by decide) rfl rfl rfl G_ST_c_ok (fun z => rfl) (fun _ _ z => by cases z) (fun _ _ _ _ z => by cases z) (List.mem_cons_of_mem _ ka_i) (fun _ _ _ z => by cases z) (fun _ z => by cases z) (by
    intro p e s m args below meth c D A cI cL hx hb hml hown hts hK hA hEX kd idx en hE
    unfold E_ST_init at hE
    split at hE
    · cases hE; exact zRow_obj hx hb hml hown hts (List.mem_cons_of_mem _ km_ST_3) (List.mem_cons_of_mem _ ko_i) (List.mem_cons_of_mem _ ko_c) (by decide) (by decide)
    · cases hE) ?_
  intro cI cL as h K hT
  match as, hT with
  | [.ref i], hT =>
  obtain ⟨fs, hi, hT⟩ := zob_s hT
  match fs, hi, hT with
  | [u0, u1, u2, u3, u4, u5, u6], hi, hT =>
  have hlt : i < h.length := (List.getElem?_eq_some_iff.mp hi).1
  have hg : ∀ x, (h.set i x)[i]? = some x := fun x => List.getElem?_set_self hlt
  have hT : K (.inl none) (h.set i (.inr (3, [.int (-1), u1, u2, u3, u4, u5, u6]))) := hT
  refine ⟨by simp [Value.category], by simp, fun Jd hc => zw_sound (J := fun _ => none) hc (fun _ _ z => by cases z) 11 0 _ _ _ _ _ _ ?_⟩
  simp (maxSteps := 4000000) only [zlc, zif0, zf3, D_ST_init, G_ST_c_k, E_ST_init_k, zT_obj, Classical.not_not, hi, hg, List.set_set, List.length_set, zw_S, zk_iconst, zk_bipush, zk_sipush, zk_ldc, zk_ldc_w, zk_aconst_null, zk_iload_n, zk_iload, zk_aload_n, zk_aload, zk_istore_n, zk_istore, zk_astore_n, zk_astore, zk_iinc, zk_iadd, zk_isub, zk_imul, zk_idiv, zk_iand, zk_ior, zk_ixor, zk_ishl, zk_ishr, zk_iushr, zk_i2l, zk_lcmp, zk_dup, zk_pop, zk_dup_x1, zk_dup2, zk_dup_x2, zk_goto, zk_ifCond, zk_if_icmp, zk_tableswitch, zk_getfield, zk_putfield, zk_iaload, zk_iastore, zk_laload, zk_lastore, zk_arraylength, zk_invokestatic, zk_invokevirtual, zk_invokespecial, zk_new, zk_newarray, zk_ireturn, zk_areturn, zk_return_, zi1_k, zi2_k, zr1_k, zri_k, zrii_k, zril_k, zvr_k, zl2_k, zv1_k, zv2_k, zv3_k, zli_k, zlr_k, zob_k, zai_k, zal_k, zfv_k, zlim_k, zlrm_k, zobm_k, zaim_k, zalm_k, zfvm_k, zgetf_k, zput_k, zcal_k, zrv_n, zrv_s, zswT_n, zswT_c, zgo_k, zcc_eq, zcc_ne, zcc_lt, zcc_ge, zcc_gt, zcc_le, zldj_k, zexc_k, znew_k, zial_k, zct_i, zct_l, zct_r, zct_n, zKK_r, zKK_x, znr_i, znr_0, znr_1, znr_v, znr_a, znr_o, znar_i, znar_r, znar_a, zfit_i, zfit_r, zfit_a, zbc, zlit, eq_self, List.getElem?_cons_zero, List.getElem?_cons_succ, List.set_cons_zero, List.set_cons_succ, List.take_succ_cons, List.take_zero, List.drop_succ_cons, List.drop_zero, List.reverse_cons, List.reverse_nil, List.nil_append, List.cons_append, List.append_nil, List.length_cons, List.length_nil, List.map_cons, List.map_nil, List.sum_cons, List.sum_nil, Option.toList_some, Option.toList_none, Nat.zero_add, Nat.add_zero, Bool.or_false, Bool.false_or, Bool.or_true, Bool.true_or, Bool.not_true, Bool.not_false, ge_iff_le, Fin.isValue, Fin.val_zero, Fin.val_one, Fin.val_two, true_and, and_true, true_implies, false_implies, forall_const, if_true, if_false, ite_true, ite_false, reduceIte, reduceCtorEq, true_or, or_true, and_self, implies_true, not_false_eq_true, not_true_eq_false, Nat.le_refl, Nat.zero_le, and_false, false_and, Nat.reduceAdd, Nat.reduceSub, Nat.reduceLT, Nat.reduceLeDiff, Nat.reduceMul, Nat.reduceEqDiff, Int.reduceAdd, Int.reduceNeg, Int.reduceToNat, Int.reduceLE, Int.reduceNatCast, Int.reduceSub, Int.reduceLT, Int.reduceEq, List.replicate_zero, List.replicate_succ, Int.reduceNatCast', Int32.reduceOfInt, Int32.reduceLT, Int32.reduceLE, Int32.reduceAdd, Int32.reduceSub, Int32.reduceMul, Int32.reduceToInt, Int32.reduceToNatClampNeg]
  exact hT
def T_BL_init : ClassId → ClassId → zT := fun _ _ as h K => match as with
  | [.ref i] => zob h i 4 (fun fs => match fs with
    | [u0, u1, u2, u3, u4, u5, u6] => K (.inl none) (h.set i (.inr (4, [u0, u1, u2, u3, .int (-1), u5, u6])))
    | _ => False)
  | _ => False
theorem T_BL_init_r {cI cL : ClassId} : ∀ as h K, T_BL_init cI cL as h K → ∃ i as', as = .ref i :: as' := by
  intro as h K hT
  match as, hT with
  | [.ref i], _ => exact ⟨i, [], rfl⟩
def E_BL_init : ClassId → ClassId → Nat → Nat → Option zEn := fun cI cL kd i => match kd, i with
  | 2, 3 => some (1, none, true, true, 0, 0, zT_obj)
  | _, _ => none
theorem E_BL_init_k : (∀ cI cL, E_BL_init cI cL 2 3 = some (1, none, true, true, 0, 0, zT_obj)) := fun _ _ => rfl
set_option maxHeartbeats 4000000 in
set_option maxRecDepth 100000 in
theorem C_BL_init {l : Launch} (hl : l.stackTraces = false) : zC l y_BL_init (Cond.code y_BL_init prog_2_method_1_code 1 none :: wsG) (rmL 1 0 0) zcl false 0 0 T_BL_init := by
  refine zC_of (G := G_BL_c) (E := E_BL_init) (X := zXn) (SL := zSn) (NW := zNn) (CS := zCn) (ctor := true) hl (by decide) rfl rfl rfl G_BL_c_ok (fun z => rfl) (fun _ _ z => by cases z) (fun _ _ _ _ z => by cases z) (List.mem_cons_of_mem _ ka_i) (fun _ _ _ z => by cases z) (fun _ z => by cases z) (by
    intro p e s m args below meth c D A cI cL hx hb hml hown hts hK hA hEX kd idx en hE
    unfold E_BL_init at hE
    split at hE
    · cases hE; exact zRow_obj hx hb hml hown hts (List.mem_cons_of_mem _ km_BL_3) (List.mem_cons_of_mem _ ko_i) (List.mem_cons_of_mem _ ko_c) (by decide) (by decide)
    · cases hE) ?_
  intro cI cL as h K hT
  match as, hT with
  | [.ref i], hT =>
  obtain ⟨fs, hi, hT⟩ := zob_s hT
  match fs, hi, hT with
  | [u0, u1, u2, u3, u4, u5, u6], hi, hT =>
  have hlt : i < h.length := (List.getElem?_eq_some_iff.mp hi).1
  have hg : ∀ x, (h.set i x)[i]? = some x := fun x => List.getElem?_set_self hlt
  have hT : K (.inl none) (h.set i (.inr (4, [u0, u1, u2, u3, .int (-1), u5, u6]))) := hT
  refine ⟨by simp [Value.category], by simp, fun Jd hc => zw_sound (J := fun _ => none) hc (fun _ _ z => by cases z) 11 0 _ _ _ _ _ _ ?_⟩
  simp (maxSteps := 4000000) only [zlc, zif0, zf3, D_BL_init, G_BL_c_k, E_BL_init_k, zT_obj, Classical.not_not, hi, hg, List.set_set, List.length_set, zw_S, zk_iconst, zk_bipush, zk_sipush, zk_ldc, zk_ldc_w, zk_aconst_null, zk_iload_n, zk_iload, zk_aload_n, zk_aload, zk_istore_n, zk_istore, zk_astore_n, zk_astore, zk_iinc, zk_iadd, zk_isub, zk_imul, zk_idiv, zk_iand, zk_ior, zk_ixor, zk_ishl, zk_ishr, zk_iushr, zk_i2l, zk_lcmp, zk_dup, zk_pop, zk_dup_x1, zk_dup2, zk_dup_x2, zk_goto, zk_ifCond, zk_if_icmp, zk_tableswitch, zk_getfield, zk_putfield, zk_iaload, zk_iastore, zk_laload, zk_lastore, zk_arraylength, zk_invokestatic, zk_invokevirtual, zk_invokespecial, zk_new, zk_newarray, zk_ireturn, zk_areturn, zk_return_, zi1_k, zi2_k, zr1_k, zri_k, zrii_k, zril_k, zvr_k, zl2_k, zv1_k, zv2_k, zv3_k, zli_k, zlr_k, zob_k, zai_k, zal_k, zfv_k, zlim_k, zlrm_k, zobm_k, zaim_k, zalm_k, zfvm_k, zgetf_k, zput_k, zcal_k, zrv_n, zrv_s, zswT_n, zswT_c, zgo_k, zcc_eq, zcc_ne, zcc_lt, zcc_ge, zcc_gt, zcc_le, zldj_k, zexc_k, znew_k, zial_k, zct_i, zct_l, zct_r, zct_n, zKK_r, zKK_x, znr_i, znr_0, znr_1, znr_v, znr_a, znr_o, znar_i, znar_r, znar_a, zfit_i, zfit_r, zfit_a, zbc, zlit, eq_self, List.getElem?_cons_zero, List.getElem?_cons_succ, List.set_cons_zero, List.set_cons_succ, List.take_succ_cons, List.take_zero, List.drop_succ_cons, List.drop_zero, List.reverse_cons, List.reverse_nil, List.nil_append, List.cons_append, List.append_nil, List.length_cons, List.length_nil, List.map_cons, List.map_nil, List.sum_cons, List.sum_nil, Option.toList_some, Option.toList_none, Nat.zero_add, Nat.add_zero, Bool.or_false, Bool.false_or, Bool.or_true, Bool.true_or, Bool.not_true, Bool.not_false, ge_iff_le, Fin.isValue, Fin.val_zero, Fin.val_one, Fin.val_two, true_and, and_true, true_implies, false_implies, forall_const, if_true, if_false, ite_true, ite_false, reduceIte, reduceCtorEq, true_or, or_true, and_self, implies_true, not_false_eq_true, not_true_eq_false, Nat.le_refl, Nat.zero_le, and_false, false_and, Nat.reduceAdd, Nat.reduceSub, Nat.reduceLT, Nat.reduceLeDiff, Nat.reduceMul, Nat.reduceEqDiff, Int.reduceAdd, Int.reduceNeg, Int.reduceToNat, Int.reduceLE, Int.reduceNatCast, Int.reduceSub, Int.reduceLT, Int.reduceEq, List.replicate_zero, List.replicate_succ, Int.reduceNatCast', Int32.reduceOfInt, Int32.reduceLT, Int32.reduceLE, Int32.reduceAdd, Int32.reduceSub, Int32.reduceMul, Int32.reduceToInt, Int32.reduceToNatClampNeg]
  exact hT

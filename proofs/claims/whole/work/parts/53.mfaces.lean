theorem nbk : (narrow .boolean (.int 0) = .int 0) ∧ (narrow .boolean (.int 1) = .int 1) ∧ (fits .boolean (.int 0) = true) ∧ (fits .boolean (.int 1) = true) := ⟨rfl, rfl, rfl, rfl⟩
def f_MO_scissors (m : mSt) (a1 a2 a3 a4 : Int32) : zO × mSt := match m with
  | ((th, x0, y0, wd, hi), (sc, dt, dw, eq, ea, lg, wm), (ch, de, sn), (si, su, fa, cn), (an, vs, vd)) => (.inl none, ((0, x0, y0, wd, hi), (if a3 < a1 then 0 else 1, dt, dw, eq, ea, lg, wm), (ch, de, sn), ((upd (upd (upd (upd si 0 a1) 1 a2) 2 a3) 3 a4), su, fa, cn), (an, vs, vd)))
def T_MO_scissors : ClassId → ClassId → zT := fun cI _ as h K => match as with
  | [.ref 10, .int a1, .int a2, .int a3, .int a4] => rdM cI h (fun put m => K (f_MO_scissors m a1 a2 a3 a4).1 (put (f_MO_scissors m a1 a2 a3 a4).2))
  | _ => False
set_option maxHeartbeats 4000000 in
set_option maxRecDepth 100000 in
theorem C_MO_scissors {l : Launch} (hl : l.stackTraces = false) : zC l y_MO_scissors (Cond.code y_MO_scissors prog_8_method_6_code 5 none :: wsG) (rmL 1 0 0) zcl false 0 0 T_MO_scissors := by
  refine zC_of (G := G_MO) (E := zEn0) (X := zXn) (SL := zSn) (NW := zNn) (CS := zCn) (ctor := false) hl (by decide) rfl rfl rfl G_MO_ok (fun z => by cases z) (fun _ _ z => by cases z) (fun _ _ _ _ z => by cases z) (List.mem_cons_of_mem _ ka_i) (fun _ _ _ z => by cases z) (fun _ z => by cases z) (fun _ _ _ _ _ _ _ _ _ _ _ _ _ _ _ _ _ _ _ _ _ _ _ z => by cases z) ?_
  intro cI cL as h K hT
  match as, hT with
  | [.ref 10, .int a1, .int a2, .int a3, .int a4], hT =>
  obtain ⟨P, ⟨⟨th, x0, y0, wd, hi⟩, ⟨sc, dt, dw, eq, ea, lg, wm⟩, ⟨ch, de, sn⟩, ⟨si, su, fa, cn⟩, ⟨an, vs, vd⟩⟩, r, rfl, hU⟩ := hT
  replace hT := hU
  clear hU
  refine ⟨by simp [Value.category], by simp, fun Jd hc => zw_sound (J := fun _ => none) hc (fun _ _ z => by cases z) 37 0 _ _ _ _ _ _ ?_⟩
  simp (maxSteps := 4000000) only [zlc, zif0, zf3, D_MO_scissors, G_MO_k, hM, hMc, hP_g, hP_s, hP_l, rdM_k, zvi, nbk, Classical.not_not, zw_S, zk_iconst, zk_bipush, zk_sipush, zk_ldc, zk_ldc_w, zk_aconst_null, zk_iload_n, zk_iload, zk_aload_n, zk_aload, zk_istore_n, zk_istore, zk_astore_n, zk_astore, zk_iinc, zk_iadd, zk_isub, zk_imul, zk_idiv, zk_iand, zk_ior, zk_ixor, zk_ishl, zk_ishr, zk_iushr, zk_i2l, zk_lcmp, zk_dup, zk_pop, zk_dup_x1, zk_dup2, zk_dup_x2, zk_goto, zk_ifCond, zk_if_icmp, zk_tableswitch, zk_getfield, zk_putfield, zk_iaload, zk_iastore, zk_laload, zk_lastore, zk_arraylength, zk_invokestatic, zk_invokevirtual, zk_invokespecial, zk_new, zk_newarray, zk_ireturn, zk_areturn, zk_return_, zi1_k, zi2_k, zr1_k, zri_k, zrii_k, zril_k, zvr_k, zl2_k, zv1_k, zv2_k, zv3_k, zli_k, zlr_k, zob_k, zai_k, zal_k, zfv_k, zlim_k, zlrm_k, zobm_k, zaim_k, zalm_k, zfvm_k, zgetf_k, zput_k, zcal_k, zrv_n, zrv_s, zswT_n, zswT_c, zgo_k, zcc_eq, zcc_ne, zcc_lt, zcc_ge, zcc_gt, zcc_le, zldj_k, zexc_k, znew_k, zial_k, zct_i, zct_l, zct_r, zct_n, zKK_r, zKK_x, znr_i, znr_0, znr_1, znr_v, znr_a, znr_o, znar_i, znar_r, znar_a, zfit_i, zfit_r, zfit_a, zbc, zlit, eq_self, List.getElem?_cons_zero, List.getElem?_cons_succ, List.set_cons_zero, List.set_cons_succ, List.take_succ_cons, List.take_zero, List.drop_succ_cons, List.drop_zero, List.reverse_cons, List.reverse_nil, List.nil_append, List.cons_append, List.append_nil, List.length_cons, List.length_nil, List.map_cons, List.map_nil, List.sum_cons, List.sum_nil, Option.toList_some, Option.toList_none, Nat.zero_add, Nat.add_zero, Bool.or_false, Bool.false_or, Bool.or_true, Bool.true_or, Bool.not_true, Bool.not_false, ge_iff_le, Fin.isValue, Fin.val_zero, Fin.val_one, Fin.val_two, true_and, and_true, true_implies, false_implies, forall_const, if_true, if_false, ite_true, ite_false, reduceIte, reduceCtorEq, true_or, or_true, and_self, implies_true, not_false_eq_true, not_true_eq_false, Nat.le_refl, Nat.zero_le, and_false, false_and, Nat.reduceAdd, Nat.reduceSub, Nat.reduceLT, Nat.reduceLeDiff, Nat.reduceMul, Nat.reduceEqDiff, Int.reduceAdd, Int.reduceNeg, Int.reduceToNat, Int.reduceLE, Int.reduceNatCast, Int.reduceSub, Int.reduceLT, Int.reduceEq, List.replicate_zero, List.replicate_succ, Int.reduceNatCast', Int32.reduceOfInt, Int32.reduceLT, Int32.reduceLE, Int32.reduceAdd, Int32.reduceSub, Int32.reduceMul, Int32.reduceToInt, Int32.reduceToNatClampNeg]
  repeat' (first | (intro _) | (apply And.intro))
  all_goals (first | exact hT | (simp only [f_MO_scissors, hM, hMc, *, if_true, if_false, reduceIte, not_true_eq_false, not_false_eq_true] at hT; exact hT) | (simp [f_MO_scissors, hM, hMc, *] at hT; exact hT) | (simp [f_MO_scissors, hM, hMc, *] at hT ⊢; exact hT) | (simp_all [f_MO_scissors, hM, hMc]; done))
def f_MO_depth (m : mSt) (a1 a2 : Int32) : zO × mSt := match m with
  | ((th, x0, y0, wd, hi), (sc, dt, dw, eq, ea, lg, wm), (ch, de, sn), (si, su, fa, cn), (an, vs, vd)) => if ((-1) ≤ a1 ∧ a1 ≤ 7) then (.inl none, ((0, x0, y0, wd, hi), (sc, a1, a2, eq, ea, lg, wm), (ch, de, sn), (si, su, fa, cn), (an, vs, vd))) else (.inl none, ((1, x0, y0, wd, hi), (sc, dt, dw, eq, ea, lg, wm), (ch, de, sn), (si, su, fa, cn), (an, vs, vd)))
def p_MO_depth (m : mSt) (a1 a2 : Int32) : Prop := match m with
  | ((th, x0, y0, wd, hi), (sc, dt, dw, eq, ea, lg, wm), (ch, de, sn), (si, su, fa, cn), (an, vs, vd)) => a2 = 0 ∨ a2 = 1
def T_MO_depth : ClassId → ClassId → zT := fun cI _ as h K => match as with
  | [.ref 10, .int a1, .int a2] => rdM cI h (fun put m => p_MO_depth m a1 a2 ∧ K (f_MO_depth m a1 a2).1 (put (f_MO_depth m a1 a2).2))
  | _ => False
def E_MO_depth : ClassId → ClassId → Nat → Nat → Option zEn := fun cI cL kd i => match kd, i with
  | 0, 62 => some (3, none, true, true, 0, 0, T_MO_in cI cL)
  | 1, 66 => some (3, some 5, true, false, 0, 0, T_MO_refuse cI cL)
  | _, _ => none
theorem E_MO_depth_k : (∀ cI cL, E_MO_depth cI cL 0 62 = some (3, none, true, true, 0, 0, T_MO_in cI cL)) ∧ (∀ cI cL, E_MO_depth cI cL 1 66 = some (3, some 5, true, false, 0, 0, T_MO_refuse cI cL)) := ⟨fun _ _ => rfl, fun _ _ => rfl⟩
set_option maxHeartbeats 4000000 in
set_option maxRecDepth 100000 in
theorem C_MO_depth {l : Launch} (hl : l.stackTraces = false) : zC l y_MO_depth (Cond.code y_MO_depth prog_8_method_7_code 3 none :: wsG) (rmL 2 0 0) zcl false 0 0 T_MO_depth := by
  refine zC_of (G := G_MO) (E := E_MO_depth) (X := zXn) (SL := zSn) (NW := zNn) (CS := zCn) (ctor := false) hl (by decide) rfl rfl rfl G_MO_ok (fun z => by cases z) (fun _ _ z => by cases z) (fun _ _ _ _ z => by cases z) (List.mem_cons_of_mem _ ka_i) (fun _ _ _ z => by cases z) (fun _ z => by cases z) (by
    intro p e s m args below meth c D A cI cL hx hb hml hown hts hK hA hEX kd idx en hE
    unfold E_MO_depth at hE
    split at hE
    · cases hE; exact zRow_S (C_MO_in hl) rfl (Or.inl ⟨_, _, rfl⟩) hx hb hml hown hts hK hA hEX (hin_c kb_MO_in) (List.mem_cons_of_mem _ kn_MO) (List.mem_cons_of_mem _ ks_MO_in) (Or.inl (List.mem_cons_of_mem _ km_MO_62)) (by decide) (by decide) (by decide) rfl rfl
    · cases hE; exact zRow_V (C_MO_refuse hl) rfl (Or.inl ⟨_, _, rfl⟩) hx hb hml hown hts hK hA hEX (hin_c kb_MO_refuse) (List.mem_cons_of_mem _ kn_MO) (List.mem_cons_of_mem _ ki_MO_refuse) (List.mem_cons_of_mem _ kv_MO_refuse) rfl (Or.inl (List.mem_cons_of_mem _ km_MO_66)) (by decide) (by decide) (by decide) rfl rfl
    · cases hE) ?_
  intro cI cL as h K hT
  match as, hT with
  | [.ref 10, .int a1, .int a2], hT =>
  obtain ⟨P, ⟨⟨th, x0, y0, wd, hi⟩, ⟨sc, dt, dw, eq, ea, lg, wm⟩, ⟨ch, de, sn⟩, ⟨si, su, fa, cn⟩, ⟨an, vs, vd⟩⟩, r, rfl, hp, hU⟩ := hT
  replace hT := hU
  clear hU
  refine ⟨by simp [Value.category], by simp, fun Jd hc => zw_sound (J := fun _ => none) hc (fun _ _ z => by cases z) 25 0 _ _ _ _ _ _ ?_⟩
  simp (maxSteps := 4000000) only [zlc, zif0, zf3, D_MO_depth, G_MO_k, E_MO_depth_k, T_MO_in, f_wi_0, znr_wi, T_MO_refuse, f_MO_refuse, rfk, hM, hMc, hP_g, hP_s, hP_l, rdM_k, zvi, Classical.not_not, znb hp, zw_S, zk_iconst, zk_bipush, zk_sipush, zk_ldc, zk_ldc_w, zk_aconst_null, zk_iload_n, zk_iload, zk_aload_n, zk_aload, zk_istore_n, zk_istore, zk_astore_n, zk_astore, zk_iinc, zk_iadd, zk_isub, zk_imul, zk_idiv, zk_iand, zk_ior, zk_ixor, zk_ishl, zk_ishr, zk_iushr, zk_i2l, zk_lcmp, zk_dup, zk_pop, zk_dup_x1, zk_dup2, zk_dup_x2, zk_goto, zk_ifCond, zk_if_icmp, zk_tableswitch, zk_getfield, zk_putfield, zk_iaload, zk_iastore, zk_laload, zk_lastore, zk_arraylength, zk_invokestatic, zk_invokevirtual, zk_invokespecial, zk_new, zk_newarray, zk_ireturn, zk_areturn, zk_return_, zi1_k, zi2_k, zr1_k, zri_k, zrii_k, zril_k, zvr_k, zl2_k, zv1_k, zv2_k, zv3_k, zli_k, zlr_k, zob_k, zai_k, zal_k, zfv_k, zlim_k, zlrm_k, zobm_k, zaim_k, zalm_k, zfvm_k, zgetf_k, zput_k, zcal_k, zrv_n, zrv_s, zswT_n, zswT_c, zgo_k, zcc_eq, zcc_ne, zcc_lt, zcc_ge, zcc_gt, zcc_le, zldj_k, zexc_k, znew_k, zial_k, zct_i, zct_l, zct_r, zct_n, zKK_r, zKK_x, znr_i, znr_0, znr_1, znr_v, znr_a, znr_o, znar_i, znar_r, znar_a, zfit_i, zfit_r, zfit_a, zbc, zlit, eq_self, List.getElem?_cons_zero, List.getElem?_cons_succ, List.set_cons_zero, List.set_cons_succ, List.take_succ_cons, List.take_zero, List.drop_succ_cons, List.drop_zero, List.reverse_cons, List.reverse_nil, List.nil_append, List.cons_append, List.append_nil, List.length_cons, List.length_nil, List.map_cons, List.map_nil, List.sum_cons, List.sum_nil, Option.toList_some, Option.toList_none, Nat.zero_add, Nat.add_zero, Bool.or_false, Bool.false_or, Bool.or_true, Bool.true_or, Bool.not_true, Bool.not_false, ge_iff_le, Fin.isValue, Fin.val_zero, Fin.val_one, Fin.val_two, true_and, and_true, true_implies, false_implies, forall_const, if_true, if_false, ite_true, ite_false, reduceIte, reduceCtorEq, true_or, or_true, and_self, implies_true, not_false_eq_true, not_true_eq_false, Nat.le_refl, Nat.zero_le, and_false, false_and, Nat.reduceAdd, Nat.reduceSub, Nat.reduceLT, Nat.reduceLeDiff, Nat.reduceMul, Nat.reduceEqDiff, Int.reduceAdd, Int.reduceNeg, Int.reduceToNat, Int.reduceLE, Int.reduceNatCast, Int.reduceSub, Int.reduceLT, Int.reduceEq, List.replicate_zero, List.replicate_succ, Int.reduceNatCast', Int32.reduceOfInt, Int32.reduceLT, Int32.reduceLE, Int32.reduceAdd, Int32.reduceSub, Int32.reduceMul, Int32.reduceToInt, Int32.reduceToNatClampNeg]
  simp only [f_MO_depth, zKm K (fun m => hM cI P m r), Classical.not_not] at hT
  simp only [hM, hMc] at hT
  exact hT
def f_MO_logic (m : mSt) (a1 : Int32) : zO × mSt := match m with
  | ((th, x0, y0, wd, hi), (sc, dt, dw, eq, ea, lg, wm), (ch, de, sn), (si, su, fa, cn), (an, vs, vd)) => if ((-1) ≤ a1 ∧ a1 ≤ 15) then (.inl none, ((0, x0, y0, wd, hi), (sc, dt, dw, eq, ea, a1, wm), (ch, de, sn), (si, su, fa, cn), (an, vs, vd))) else (.inl none, ((1, x0, y0, wd, hi), (sc, dt, dw, eq, ea, lg, wm), (ch, de, sn), (si, su, fa, cn), (an, vs, vd)))
def T_MO_logic : ClassId → ClassId → zT := fun cI _ as h K => match as with
  | [.ref 10, .int a1] => rdM cI h (fun put m => K (f_MO_logic m a1).1 (put (f_MO_logic m a1).2))
  | _ => False
def E_MO_logic : ClassId → ClassId → Nat → Nat → Option zEn := fun cI cL kd i => match kd, i with
  | 0, 62 => some (3, none, true, true, 0, 0, T_MO_in cI cL)
  | 1, 66 => some (3, some 5, true, false, 0, 0, T_MO_refuse cI cL)
  | _, _ => none
theorem E_MO_logic_k : (∀ cI cL, E_MO_logic cI cL 0 62 = some (3, none, true, true, 0, 0, T_MO_in cI cL)) ∧ (∀ cI cL, E_MO_logic cI cL 1 66 = some (3, some 5, true, false, 0, 0, T_MO_refuse cI cL)) := ⟨fun _ _ => rfl, fun _ _ => rfl⟩
set_option maxHeartbeats 4000000 in
set_option maxRecDepth 100000 in
theorem C_MO_logic {l : Launch} (hl : l.stackTraces = false) : zC l y_MO_logic (Cond.code y_MO_logic prog_8_method_11_code 2 none :: wsG) (rmL 2 0 0) zcl false 0 0 T_MO_logic := by
  refine zC_of (G := G_MO) (E := E_MO_logic) (X := zXn) (SL := zSn) (NW := zNn) (CS := zCn) (ctor := false) hl (by decide) rfl rfl rfl G_MO_ok (fun z => by cases z) (fun _ _ z => by cases z) (fun _ _ _ _ z => by cases z) (List.mem_cons_of_mem _ ka_i) (fun _ _ _ z => by cases z) (fun _ z => by cases z) (by
    intro p e s m args below meth c D A cI cL hx hb hml hown hts hK hA hEX kd idx en hE
    unfold E_MO_logic at hE
    split at hE
    · cases hE; exact zRow_S (C_MO_in hl) rfl (Or.inl ⟨_, _, rfl⟩) hx hb hml hown hts hK hA hEX (hin_c kb_MO_in) (List.mem_cons_of_mem _ kn_MO) (List.mem_cons_of_mem _ ks_MO_in) (Or.inl (List.mem_cons_of_mem _ km_MO_62)) (by decide) (by decide) (by decide) rfl rfl
    · cases hE; exact zRow_V (C_MO_refuse hl) rfl (Or.inl ⟨_, _, rfl⟩) hx hb hml hown hts hK hA hEX (hin_c kb_MO_refuse) (List.mem_cons_of_mem _ kn_MO) (List.mem_cons_of_mem _ ki_MO_refuse) (List.mem_cons_of_mem _ kv_MO_refuse) rfl (Or.inl (List.mem_cons_of_mem _ km_MO_66)) (by decide) (by decide) (by decide) rfl rfl
    · cases hE) ?_
  intro cI cL as h K hT
  match as, hT with
  | [.ref 10, .int a1], hT =>
  obtain ⟨P, ⟨⟨th, x0, y0, wd, hi⟩, ⟨sc, dt, dw, eq, ea, lg, wm⟩, ⟨ch, de, sn⟩, ⟨si, su, fa, cn⟩, ⟨an, vs, vd⟩⟩, r, rfl, hU⟩ := hT
  replace hT := hU
  clear hU
  refine ⟨by simp [Value.category], by simp, fun Jd hc => zw_sound (J := fun _ => none) hc (fun _ _ z => by cases z) 21 0 _ _ _ _ _ _ ?_⟩
  simp (maxSteps := 4000000) only [zlc, zif0, zf3, D_MO_logic, G_MO_k, E_MO_logic_k, T_MO_in, f_wi_0, znr_wi, T_MO_refuse, f_MO_refuse, rfk, hM, hMc, hP_g, hP_s, hP_l, rdM_k, zvi, Classical.not_not, zw_S, zk_iconst, zk_bipush, zk_sipush, zk_ldc, zk_ldc_w, zk_aconst_null, zk_iload_n, zk_iload, zk_aload_n, zk_aload, zk_istore_n, zk_istore, zk_astore_n, zk_astore, zk_iinc, zk_iadd, zk_isub, zk_imul, zk_idiv, zk_iand, zk_ior, zk_ixor, zk_ishl, zk_ishr, zk_iushr, zk_i2l, zk_lcmp, zk_dup, zk_pop, zk_dup_x1, zk_dup2, zk_dup_x2, zk_goto, zk_ifCond, zk_if_icmp, zk_tableswitch, zk_getfield, zk_putfield, zk_iaload, zk_iastore, zk_laload, zk_lastore, zk_arraylength, zk_invokestatic, zk_invokevirtual, zk_invokespecial, zk_new, zk_newarray, zk_ireturn, zk_areturn, zk_return_, zi1_k, zi2_k, zr1_k, zri_k, zrii_k, zril_k, zvr_k, zl2_k, zv1_k, zv2_k, zv3_k, zli_k, zlr_k, zob_k, zai_k, zal_k, zfv_k, zlim_k, zlrm_k, zobm_k, zaim_k, zalm_k, zfvm_k, zgetf_k, zput_k, zcal_k, zrv_n, zrv_s, zswT_n, zswT_c, zgo_k, zcc_eq, zcc_ne, zcc_lt, zcc_ge, zcc_gt, zcc_le, zldj_k, zexc_k, znew_k, zial_k, zct_i, zct_l, zct_r, zct_n, zKK_r, zKK_x, znr_i, znr_0, znr_1, znr_v, znr_a, znr_o, znar_i, znar_r, znar_a, zfit_i, zfit_r, zfit_a, zbc, zlit, eq_self, List.getElem?_cons_zero, List.getElem?_cons_succ, List.set_cons_zero, List.set_cons_succ, List.take_succ_cons, List.take_zero, List.drop_succ_cons, List.drop_zero, List.reverse_cons, List.reverse_nil, List.nil_append, List.cons_append, List.append_nil, List.length_cons, List.length_nil, List.map_cons, List.map_nil, List.sum_cons, List.sum_nil, Option.toList_some, Option.toList_none, Nat.zero_add, Nat.add_zero, Bool.or_false, Bool.false_or, Bool.or_true, Bool.true_or, Bool.not_true, Bool.not_false, ge_iff_le, Fin.isValue, Fin.val_zero, Fin.val_one, Fin.val_two, true_and, and_true, true_implies, false_implies, forall_const, if_true, if_false, ite_true, ite_false, reduceIte, reduceCtorEq, true_or, or_true, and_self, implies_true, not_false_eq_true, not_true_eq_false, Nat.le_refl, Nat.zero_le, and_false, false_and, Nat.reduceAdd, Nat.reduceSub, Nat.reduceLT, Nat.reduceLeDiff, Nat.reduceMul, Nat.reduceEqDiff, Int.reduceAdd, Int.reduceNeg, Int.reduceToNat, Int.reduceLE, Int.reduceNatCast, Int.reduceSub, Int.reduceLT, Int.reduceEq, List.replicate_zero, List.replicate_succ, Int.reduceNatCast', Int32.reduceOfInt, Int32.reduceLT, Int32.reduceLE, Int32.reduceAdd, Int32.reduceSub, Int32.reduceMul, Int32.reduceToInt, Int32.reduceToNatClampNeg]
  simp only [f_MO_logic, zKm K (fun m => hM cI P m r), Classical.not_not] at hT
  simp only [hM, hMc] at hT
  exact hT
def f_MO_mask (m : mSt) (a1 : Int32) : zO × mSt := match m with
  | ((th, x0, y0, wd, hi), (sc, dt, dw, eq, ea, lg, wm), (ch, de, sn), (si, su, fa, cn), (an, vs, vd)) => if (0 ≤ a1 ∧ a1 ≤ 15) then (.inl none, ((0, x0, y0, wd, hi), (sc, dt, dw, eq, ea, lg, a1), (ch, de, sn), (si, su, fa, cn), (an, vs, vd))) else (.inl none, ((1, x0, y0, wd, hi), (sc, dt, dw, eq, ea, lg, wm), (ch, de, sn), (si, su, fa, cn), (an, vs, vd)))
def T_MO_mask : ClassId → ClassId → zT := fun cI _ as h K => match as with
  | [.ref 10, .int a1] => rdM cI h (fun put m => K (f_MO_mask m a1).1 (put (f_MO_mask m a1).2))
  | _ => False
def E_MO_mask : ClassId → ClassId → Nat → Nat → Option zEn := fun cI cL kd i => match kd, i with
  | 0, 62 => some (3, none, true, true, 0, 0, T_MO_in cI cL)
  | 1, 66 => some (3, some 5, true, false, 0, 0, T_MO_refuse cI cL)
  | _, _ => none
theorem E_MO_mask_k : (∀ cI cL, E_MO_mask cI cL 0 62 = some (3, none, true, true, 0, 0, T_MO_in cI cL)) ∧ (∀ cI cL, E_MO_mask cI cL 1 66 = some (3, some 5, true, false, 0, 0, T_MO_refuse cI cL)) := ⟨fun _ _ => rfl, fun _ _ => rfl⟩
set_option maxHeartbeats 4000000 in
set_option maxRecDepth 100000 in
theorem C_MO_mask {l : Launch} (hl : l.stackTraces = false) : zC l y_MO_mask (Cond.code y_MO_mask prog_8_method_12_code 2 none :: wsG) (rmL 2 0 0) zcl false 0 0 T_MO_mask := by
  refine zC_of (G := G_MO) (E := E_MO_mask) (X := zXn) (SL := zSn) (NW := zNn) (CS := zCn) (ctor := false) hl (by decide) rfl rfl rfl G_MO_ok (fun z => by cases z) (fun _ _ z => by cases z) (fun _ _ _ _ z => by cases z) (List.mem_cons_of_mem _ ka_i) (fun _ _ _ z => by cases z) (fun _ z => by cases z) (by
    intro p e s m args below meth c D A cI cL hx hb hml hown hts hK hA hEX kd idx en hE
    unfold E_MO_mask at hE
    split at hE
    · cases hE; exact zRow_S (C_MO_in hl) rfl (Or.inl ⟨_, _, rfl⟩) hx hb hml hown hts hK hA hEX (hin_c kb_MO_in) (List.mem_cons_of_mem _ kn_MO) (List.mem_cons_of_mem _ ks_MO_in) (Or.inl (List.mem_cons_of_mem _ km_MO_62)) (by decide) (by decide) (by decide) rfl rfl
    · cases hE; exact zRow_V (C_MO_refuse hl) rfl (Or.inl ⟨_, _, rfl⟩) hx hb hml hown hts hK hA hEX (hin_c kb_MO_refuse) (List.mem_cons_of_mem _ kn_MO) (List.mem_cons_of_mem _ ki_MO_refuse) (List.mem_cons_of_mem _ kv_MO_refuse) rfl (Or.inl (List.mem_cons_of_mem _ km_MO_66)) (by decide) (by decide) (by decide) rfl rfl
    · cases hE) ?_
  intro cI cL as h K hT
  match as, hT with
  | [.ref 10, .int a1], hT =>
  obtain ⟨P, ⟨⟨th, x0, y0, wd, hi⟩, ⟨sc, dt, dw, eq, ea, lg, wm⟩, ⟨ch, de, sn⟩, ⟨si, su, fa, cn⟩, ⟨an, vs, vd⟩⟩, r, rfl, hU⟩ := hT
  replace hT := hU
  clear hU
  refine ⟨by simp [Value.category], by simp, fun Jd hc => zw_sound (J := fun _ => none) hc (fun _ _ z => by cases z) 21 0 _ _ _ _ _ _ ?_⟩
  simp (maxSteps := 4000000) only [zlc, zif0, zf3, D_MO_mask, G_MO_k, E_MO_mask_k, T_MO_in, f_wi_0, znr_wi, T_MO_refuse, f_MO_refuse, rfk, hM, hMc, hP_g, hP_s, hP_l, rdM_k, zvi, Classical.not_not, zw_S, zk_iconst, zk_bipush, zk_sipush, zk_ldc, zk_ldc_w, zk_aconst_null, zk_iload_n, zk_iload, zk_aload_n, zk_aload, zk_istore_n, zk_istore, zk_astore_n, zk_astore, zk_iinc, zk_iadd, zk_isub, zk_imul, zk_idiv, zk_iand, zk_ior, zk_ixor, zk_ishl, zk_ishr, zk_iushr, zk_i2l, zk_lcmp, zk_dup, zk_pop, zk_dup_x1, zk_dup2, zk_dup_x2, zk_goto, zk_ifCond, zk_if_icmp, zk_tableswitch, zk_getfield, zk_putfield, zk_iaload, zk_iastore, zk_laload, zk_lastore, zk_arraylength, zk_invokestatic, zk_invokevirtual, zk_invokespecial, zk_new, zk_newarray, zk_ireturn, zk_areturn, zk_return_, zi1_k, zi2_k, zr1_k, zri_k, zrii_k, zril_k, zvr_k, zl2_k, zv1_k, zv2_k, zv3_k, zli_k, zlr_k, zob_k, zai_k, zal_k, zfv_k, zlim_k, zlrm_k, zobm_k, zaim_k, zalm_k, zfvm_k, zgetf_k, zput_k, zcal_k, zrv_n, zrv_s, zswT_n, zswT_c, zgo_k, zcc_eq, zcc_ne, zcc_lt, zcc_ge, zcc_gt, zcc_le, zldj_k, zexc_k, znew_k, zial_k, zct_i, zct_l, zct_r, zct_n, zKK_r, zKK_x, znr_i, znr_0, znr_1, znr_v, znr_a, znr_o, znar_i, znar_r, znar_a, zfit_i, zfit_r, zfit_a, zbc, zlit, eq_self, List.getElem?_cons_zero, List.getElem?_cons_succ, List.set_cons_zero, List.set_cons_succ, List.take_succ_cons, List.take_zero, List.drop_succ_cons, List.drop_zero, List.reverse_cons, List.reverse_nil, List.nil_append, List.cons_append, List.append_nil, List.length_cons, List.length_nil, List.map_cons, List.map_nil, List.sum_cons, List.sum_nil, Option.toList_some, Option.toList_none, Nat.zero_add, Nat.add_zero, Bool.or_false, Bool.false_or, Bool.or_true, Bool.true_or, Bool.not_true, Bool.not_false, ge_iff_le, Fin.isValue, Fin.val_zero, Fin.val_one, Fin.val_two, true_and, and_true, true_implies, false_implies, forall_const, if_true, if_false, ite_true, ite_false, reduceIte, reduceCtorEq, true_or, or_true, and_self, implies_true, not_false_eq_true, not_true_eq_false, Nat.le_refl, Nat.zero_le, and_false, false_and, Nat.reduceAdd, Nat.reduceSub, Nat.reduceLT, Nat.reduceLeDiff, Nat.reduceMul, Nat.reduceEqDiff, Int.reduceAdd, Int.reduceNeg, Int.reduceToNat, Int.reduceLE, Int.reduceNatCast, Int.reduceSub, Int.reduceLT, Int.reduceEq, List.replicate_zero, List.replicate_succ, Int.reduceNatCast', Int32.reduceOfInt, Int32.reduceLT, Int32.reduceLE, Int32.reduceAdd, Int32.reduceSub, Int32.reduceMul, Int32.reduceToInt, Int32.reduceToNatClampNeg]
  simp only [f_MO_mask, zKm K (fun m => hM cI P m r), Classical.not_not] at hT
  simp only [hM, hMc] at hT
  exact hT
def f_MO_drawn (m : mSt) (a1 : Int32) : zO × mSt := match m with
  | ((th, x0, y0, wd, hi), (sc, dt, dw, eq, ea, lg, wm), (ch, de, sn), (si, su, fa, cn), (an, vs, vd)) => if (0 ≤ a1 ∧ a1 ≤ 3) then (.inl (some (.int (an a1.toNatClampNeg))), ((0, x0, y0, wd, hi), (sc, dt, dw, eq, ea, lg, wm), (ch, de, sn), (si, su, fa, cn), (an, vs, vd))) else (.inl (some (.int (0))), ((1, x0, y0, wd, hi), (sc, dt, dw, eq, ea, lg, wm), (ch, de, sn), (si, su, fa, cn), (an, vs, vd)))
def T_MO_drawn : ClassId → ClassId → zT := fun cI _ as h K => match as with
  | [.ref 10, .int a1] => rdM cI h (fun put m => K (f_MO_drawn m a1).1 (put (f_MO_drawn m a1).2))
  | _ => False
def E_MO_drawn : ClassId → ClassId → Nat → Nat → Option zEn := fun cI cL kd i => match kd, i with
  | 0, 62 => some (3, none, true, true, 0, 0, T_MO_in cI cL)
  | 1, 66 => some (3, some 5, true, false, 0, 0, T_MO_refuse cI cL)
  | _, _ => none
theorem E_MO_drawn_k : (∀ cI cL, E_MO_drawn cI cL 0 62 = some (3, none, true, true, 0, 0, T_MO_in cI cL)) ∧ (∀ cI cL, E_MO_drawn cI cL 1 66 = some (3, some 5, true, false, 0, 0, T_MO_refuse cI cL)) := ⟨fun _ _ => rfl, fun _ _ => rfl⟩
set_option maxHeartbeats 4000000 in
set_option maxRecDepth 100000 in
theorem C_MO_drawn {l : Launch} (hl : l.stackTraces = false) : zC l y_MO_drawn (Cond.code y_MO_drawn prog_8_method_30_code 2 (some .int) :: wsG) (rmL 2 0 0) zcl false 0 0 T_MO_drawn := by
  refine zC_of (G := G_MO) (E := E_MO_drawn) (X := zXn) (SL := zSn) (NW := zNn) (CS := zCn) (ctor := false) hl (by decide) rfl rfl rfl G_MO_ok (fun z => by cases z) (fun _ _ z => by cases z) (fun _ _ _ _ z => by cases z) (List.mem_cons_of_mem _ ka_i) (fun _ _ _ z => by cases z) (fun _ z => by cases z) (by
    intro p e s m args below meth c D A cI cL hx hb hml hown hts hK hA hEX kd idx en hE
    unfold E_MO_drawn at hE
    split at hE
    · cases hE; exact zRow_S (C_MO_in hl) rfl (Or.inl ⟨_, _, rfl⟩) hx hb hml hown hts hK hA hEX (hin_c kb_MO_in) (List.mem_cons_of_mem _ kn_MO) (List.mem_cons_of_mem _ ks_MO_in) (Or.inl (List.mem_cons_of_mem _ km_MO_62)) (by decide) (by decide) (by decide) rfl rfl
    · cases hE; exact zRow_V (C_MO_refuse hl) rfl (Or.inl ⟨_, _, rfl⟩) hx hb hml hown hts hK hA hEX (hin_c kb_MO_refuse) (List.mem_cons_of_mem _ kn_MO) (List.mem_cons_of_mem _ ki_MO_refuse) (List.mem_cons_of_mem _ kv_MO_refuse) rfl (Or.inl (List.mem_cons_of_mem _ km_MO_66)) (by decide) (by decide) (by decide) rfl rfl
    · cases hE) ?_
  intro cI cL as h K hT
  match as, hT with
  | [.ref 10, .int a1], hT =>
  obtain ⟨P, ⟨⟨th, x0, y0, wd, hi⟩, ⟨sc, dt, dw, eq, ea, lg, wm⟩, ⟨ch, de, sn⟩, ⟨si, su, fa, cn⟩, ⟨an, vs, vd⟩⟩, r, rfl, hU⟩ := hT
  replace hT := hU
  clear hU
  refine ⟨by simp [Value.category], by simp, fun Jd hc => zw_sound (J := fun _ => none) hc (fun _ _ z => by cases z) 24 0 _ _ _ _ _ _ ?_⟩
  simp (maxSteps := 4000000) only [zlc, zif0, zf3, D_MO_drawn, G_MO_k, E_MO_drawn_k, T_MO_in, f_wi_0, znr_wi, T_MO_refuse, f_MO_refuse, rfk, hM, hMc, hP_g, hP_s, hP_l, rdM_k, zvi, Classical.not_not, zw_S, zk_iconst, zk_bipush, zk_sipush, zk_ldc, zk_ldc_w, zk_aconst_null, zk_iload_n, zk_iload, zk_aload_n, zk_aload, zk_istore_n, zk_istore, zk_astore_n, zk_astore, zk_iinc, zk_iadd, zk_isub, zk_imul, zk_idiv, zk_iand, zk_ior, zk_ixor, zk_ishl, zk_ishr, zk_iushr, zk_i2l, zk_lcmp, zk_dup, zk_pop, zk_dup_x1, zk_dup2, zk_dup_x2, zk_goto, zk_ifCond, zk_if_icmp, zk_tableswitch, zk_getfield, zk_putfield, zk_iaload, zk_iastore, zk_laload, zk_lastore, zk_arraylength, zk_invokestatic, zk_invokevirtual, zk_invokespecial, zk_new, zk_newarray, zk_ireturn, zk_areturn, zk_return_, zi1_k, zi2_k, zr1_k, zri_k, zrii_k, zril_k, zvr_k, zl2_k, zv1_k, zv2_k, zv3_k, zli_k, zlr_k, zob_k, zai_k, zal_k, zfv_k, zlim_k, zlrm_k, zobm_k, zaim_k, zalm_k, zfvm_k, zgetf_k, zput_k, zcal_k, zrv_n, zrv_s, zswT_n, zswT_c, zgo_k, zcc_eq, zcc_ne, zcc_lt, zcc_ge, zcc_gt, zcc_le, zldj_k, zexc_k, znew_k, zial_k, zct_i, zct_l, zct_r, zct_n, zKK_r, zKK_x, znr_i, znr_0, znr_1, znr_v, znr_a, znr_o, znar_i, znar_r, znar_a, zfit_i, zfit_r, zfit_a, zbc, zlit, eq_self, List.getElem?_cons_zero, List.getElem?_cons_succ, List.set_cons_zero, List.set_cons_succ, List.take_succ_cons, List.take_zero, List.drop_succ_cons, List.drop_zero, List.reverse_cons, List.reverse_nil, List.nil_append, List.cons_append, List.append_nil, List.length_cons, List.length_nil, List.map_cons, List.map_nil, List.sum_cons, List.sum_nil, Option.toList_some, Option.toList_none, Nat.zero_add, Nat.add_zero, Bool.or_false, Bool.false_or, Bool.or_true, Bool.true_or, Bool.not_true, Bool.not_false, ge_iff_le, Fin.isValue, Fin.val_zero, Fin.val_one, Fin.val_two, true_and, and_true, true_implies, false_implies, forall_const, if_true, if_false, ite_true, ite_false, reduceIte, reduceCtorEq, true_or, or_true, and_self, implies_true, not_false_eq_true, not_true_eq_false, Nat.le_refl, Nat.zero_le, and_false, false_and, Nat.reduceAdd, Nat.reduceSub, Nat.reduceLT, Nat.reduceLeDiff, Nat.reduceMul, Nat.reduceEqDiff, Int.reduceAdd, Int.reduceNeg, Int.reduceToNat, Int.reduceLE, Int.reduceNatCast, Int.reduceSub, Int.reduceLT, Int.reduceEq, List.replicate_zero, List.replicate_succ, Int.reduceNatCast', Int32.reduceOfInt, Int32.reduceLT, Int32.reduceLE, Int32.reduceAdd, Int32.reduceSub, Int32.reduceMul, Int32.reduceToInt, Int32.reduceToNatClampNeg]
  simp only [f_MO_drawn, zKm K (fun m => hM cI P m r), Classical.not_not] at hT
  simp only [hM, hMc] at hT
  exact ⟨fun z => ⟨vp_le 3 z.1 z.2 (by decide), hT.1 z⟩, hT.2⟩
def f_MO_constant (m : mSt) (a1 : Int32) : zO × mSt := match m with
  | ((th, x0, y0, wd, hi), (sc, dt, dw, eq, ea, lg, wm), (ch, de, sn), (si, su, fa, cn), (an, vs, vd)) => (.inl none, ((0, x0, y0, wd, hi), (sc, dt, dw, eq, ea, lg, wm), (ch, de, sn), (si, su, fa, (upd (upd (upd (upd cn 0 ((a1 >>> ((0 : Int32) &&& 31)) &&& 255)) 1 ((a1 >>> ((8 : Int32) &&& 31)) &&& 255)) 2 ((a1 >>> ((16 : Int32) &&& 31)) &&& 255)) 3 ((a1 >>> ((24 : Int32) &&& 31)) &&& 255))), (an, vs, vd)))
def T_MO_constant : ClassId → ClassId → zT := fun cI _ as h K => match as with
  | [.ref 10, .int a1] => rdM cI h (fun put m => K (f_MO_constant m a1).1 (put (f_MO_constant m a1).2))
  | _ => False
set_option maxHeartbeats 4000000 in
set_option maxRecDepth 100000 in
theorem C_MO_constant {l : Launch} (hl : l.stackTraces = false) : zC l y_MO_constant (Cond.code y_MO_constant prog_8_method_10_code 3 none :: wsG) (rmL 1 0 0) zcl false 0 0 T_MO_constant := by
  refine zC_of (G := G_MO) (E := zEn0) (X := zXn) (SL := zSn) (NW := zNn) (CS := zCn) (ctor := false) hl (by decide) rfl rfl rfl G_MO_ok (fun z => by cases z) (fun _ _ z => by cases z) (fun _ _ _ _ z => by cases z) (List.mem_cons_of_mem _ ka_i) (fun _ _ _ z => by cases z) (fun _ z => by cases z) (fun _ _ _ _ _ _ _ _ _ _ _ _ _ _ _ _ _ _ _ _ _ _ _ z => by cases z) ?_
  intro cI cL as h K hT
  match as, hT with
  | [.ref 10, .int a1], hT =>
  obtain ⟨P, ⟨⟨th, x0, y0, wd, hi⟩, ⟨sc, dt, dw, eq, ea, lg, wm⟩, ⟨ch, de, sn⟩, ⟨si, su, fa, cn⟩, ⟨an, vs, vd⟩⟩, r, rfl, hU⟩ := hT
  replace hT := hU
  clear hU
  refine ⟨by simp [Value.category], by simp, fun Jd hc => zw_sound (J := fun _ => none) hc (fun _ _ z => by cases z) 120 0 _ _ _ _ _ _ ?_⟩
  simp (maxSteps := 4000000) only [zlc, zif0, zf3, D_MO_constant, G_MO_k, hM, hMc, hP_g, hP_s, hP_l, rdM_k, zvi, Classical.not_not, zw_S, zk_iconst, zk_bipush, zk_sipush, zk_ldc, zk_ldc_w, zk_aconst_null, zk_iload_n, zk_iload, zk_aload_n, zk_aload, zk_istore_n, zk_istore, zk_astore_n, zk_astore, zk_iinc, zk_iadd, zk_isub, zk_imul, zk_idiv, zk_iand, zk_ior, zk_ixor, zk_ishl, zk_ishr, zk_iushr, zk_i2l, zk_lcmp, zk_dup, zk_pop, zk_dup_x1, zk_dup2, zk_dup_x2, zk_goto, zk_ifCond, zk_if_icmp, zk_tableswitch, zk_getfield, zk_putfield, zk_iaload, zk_iastore, zk_laload, zk_lastore, zk_arraylength, zk_invokestatic, zk_invokevirtual, zk_invokespecial, zk_new, zk_newarray, zk_ireturn, zk_areturn, zk_return_, zi1_k, zi2_k, zr1_k, zri_k, zrii_k, zril_k, zvr_k, zl2_k, zv1_k, zv2_k, zv3_k, zli_k, zlr_k, zob_k, zai_k, zal_k, zfv_k, zlim_k, zlrm_k, zobm_k, zaim_k, zalm_k, zfvm_k, zgetf_k, zput_k, zcal_k, zrv_n, zrv_s, zswT_n, zswT_c, zgo_k, zcc_eq, zcc_ne, zcc_lt, zcc_ge, zcc_gt, zcc_le, zldj_k, zexc_k, znew_k, zial_k, zct_i, zct_l, zct_r, zct_n, zKK_r, zKK_x, znr_i, znr_0, znr_1, znr_v, znr_a, znr_o, znar_i, znar_r, znar_a, zfit_i, zfit_r, zfit_a, zbc, zlit, eq_self, List.getElem?_cons_zero, List.getElem?_cons_succ, List.set_cons_zero, List.set_cons_succ, List.take_succ_cons, List.take_zero, List.drop_succ_cons, List.drop_zero, List.reverse_cons, List.reverse_nil, List.nil_append, List.cons_append, List.append_nil, List.length_cons, List.length_nil, List.map_cons, List.map_nil, List.sum_cons, List.sum_nil, Option.toList_some, Option.toList_none, Nat.zero_add, Nat.add_zero, Bool.or_false, Bool.false_or, Bool.or_true, Bool.true_or, Bool.not_true, Bool.not_false, ge_iff_le, Fin.isValue, Fin.val_zero, Fin.val_one, Fin.val_two, true_and, and_true, true_implies, false_implies, forall_const, if_true, if_false, ite_true, ite_false, reduceIte, reduceCtorEq, true_or, or_true, and_self, implies_true, not_false_eq_true, not_true_eq_false, Nat.le_refl, Nat.zero_le, and_false, false_and, Nat.reduceAdd, Nat.reduceSub, Nat.reduceLT, Nat.reduceLeDiff, Nat.reduceMul, Nat.reduceEqDiff, Int.reduceAdd, Int.reduceNeg, Int.reduceToNat, Int.reduceLE, Int.reduceNatCast, Int.reduceSub, Int.reduceLT, Int.reduceEq, List.replicate_zero, List.replicate_succ, Int.reduceNatCast', Int32.reduceOfInt, Int32.reduceLT, Int32.reduceLE, Int32.reduceAdd, Int32.reduceSub, Int32.reduceMul, Int32.reduceToInt, Int32.reduceToNatClampNeg]
  replace hT : K (.inl none) (hM cI P ((0, x0, y0, wd, hi), (sc, dt, dw, eq, ea, lg, wm), (ch, de, sn), (si, su, fa, (upd (upd (upd (upd cn 0 ((a1 >>> ((0 : Int32) &&& 31)) &&& 255)) 1 ((a1 >>> ((8 : Int32) &&& 31)) &&& 255)) 2 ((a1 >>> ((16 : Int32) &&& 31)) &&& 255)) 3 ((a1 >>> ((24 : Int32) &&& 31)) &&& 255))), (an, vs, vd)) r) := hT
  simp only [hM, hMc] at hT
  exact hT

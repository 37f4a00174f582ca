def m00 : mSt := ((0, 0, 0, 1, 1), (0, -1, 0, -1, 0, -1, 15), (fun _ => 0, fun _ => 0, fun _ => 0), (fun _ => 0, upd (upd (fun _ => 0) 0 (-1)) 7 (-1), fun _ => 0, fun _ => 0), (fun _ => 0, fun _ => 0, fun _ => 0))
def T_MO_init : ClassId → ClassId → zT := fun cI _ as h K => as = [.ref 10] ∧ h = hC cI c00 [.inr (5, [.int 0, .int 0, .int 0, .int 0, .int 0, .null, .null, .null, .int 0, .null, .int 0, .int 0, .null, .null, .int 0, .int 0, .null, .int 0, .int 0, .null, .null, .null])] ∧ K (.inl none) (hC cI c00 (hMc cI m00 []))
theorem T_MO_init_r {cI cL : ClassId} : ∀ as h K, T_MO_init cI cL as h K → ∃ i as', as = .ref i :: as' := by
  rintro as h K ⟨rfl, -⟩
  exact ⟨_, _, rfl⟩
def E_MO_init : ClassId → ClassId → Nat → Nat → Option zEn := fun cI cL kd i => match kd, i with
  | 2, 1 => some (1, none, true, true, 0, 0, zT_obj)
  | _, _ => none
theorem E_MO_init_k : (∀ cI cL, E_MO_init cI cL 2 1 = some (1, none, true, true, 0, 0, zT_obj)) := fun _ _ => rfl
set_option maxHeartbeats 4000000 in
set_option maxRecDepth 100000 in
theorem C_MO_init {l : Launch} (hl : l.stackTraces = false) : zC l y_MO_init (Cond.code y_MO_init prog_8_method_1_code 1 none :: wsG) (rmL 2 10 24614) zcl false 10 24614 T_MO_init := by
  refine zC_of (G := G_MO_c) (E := E_MO_init) (X := zXn) (SL := zSn) (NW := zNn) (CS := zCn) (ctor := true) hl (by decide) rfl rfl rfl G_MO_c_ok (fun z => rfl) (fun _ _ z => by cases z) (fun _ _ _ _ z => by cases z) (List.mem_cons_of_mem _ ka_i) (fun _ _ _ z => by cases z) (fun _ z => by cases z) (by
    intro p e s m args below meth c D A cI cL hx hb hml hown hts hK hA hEX kd idx en hE
    unfold E_MO_init at hE
    split at hE
    · cases hE; exact zRow_obj hx hb hml hown hts (List.mem_cons_of_mem _ km_MO_1) (List.mem_cons_of_mem _ ko_i) (List.mem_cons_of_mem _ ko_c) (by decide) (by decide)
    · cases hE) ?_
  intro cI cL as h K hT
  obtain ⟨rfl, rfl, hT⟩ := hT
  simp only [hC, hR, c00, hMc, m00] at hT
  refine ⟨by simp [Value.category], by simp, fun Jd hc => zw_sound (J := fun _ => none) hc (fun _ _ z => by cases z) 90 0 _ _ _ _ _ _ ?_⟩
  simp (maxSteps := 4000000) only [hC, hR, c00, zvi, List.forall_mem_cons, List.not_mem_nil, zbk, zlc, zif0, zf3, D_MO_init_0, D_MO_init_1, G_MO_c_k, E_MO_init_k, zT_obj, Classical.not_not, zw_S, zk_iconst, zk_bipush, zk_sipush, zk_ldc, zk_ldc_w, zk_aconst_null, zk_iload_n, zk_iload, zk_aload_n, zk_aload, zk_istore_n, zk_istore, zk_astore_n, zk_astore, zk_iinc, zk_iadd, zk_isub, zk_imul, zk_idiv, zk_iand, zk_ior, zk_ixor, zk_ishl, zk_ishr, zk_iushr, zk_i2l, zk_lcmp, zk_dup, zk_pop, zk_dup_x1, zk_dup2, zk_dup_x2, zk_goto, zk_ifCond, zk_if_icmp, zk_tableswitch, zk_getfield, zk_putfield, zk_iaload, zk_iastore, zk_laload, zk_lastore, zk_arraylength, zk_invokestatic, zk_invokevirtual, zk_invokespecial, zk_new, zk_newarray, zk_ireturn, zk_areturn, zk_return_, zi1_k, zi2_k, zr1_k, zri_k, zrii_k, zril_k, zvr_k, zl2_k, zv1_k, zv2_k, zv3_k, zli_k, zlr_k, zob_k, zai_k, zal_k, zfv_k, zlim_k, zlrm_k, zobm_k, zaim_k, zalm_k, zfvm_k, zgetf_k, zput_k, zcal_k, zrv_n, zrv_s, zswT_n, zswT_c, zgo_k, zcc_eq, zcc_ne, zcc_lt, zcc_ge, zcc_gt, zcc_le, zldj_k, zexc_k, znew_k, zial_k, zct_i, zct_l, zct_r, zct_n, zKK_r, zKK_x, znr_i, znr_0, znr_1, znr_v, znr_a, znr_o, znar_i, znar_r, znar_a, zfit_i, zfit_r, zfit_a, zbc, zlit, eq_self, List.getElem?_cons_zero, List.getElem?_cons_succ, List.set_cons_zero, List.set_cons_succ, List.take_succ_cons, List.take_zero, List.drop_succ_cons, List.drop_zero, List.reverse_cons, List.reverse_nil, List.nil_append, List.cons_append, List.append_nil, List.length_cons, List.length_nil, List.map_cons, List.map_nil, List.sum_cons, List.sum_nil, Option.toList_some, Option.toList_none, Nat.zero_add, Nat.add_zero, Bool.or_false, Bool.false_or, Bool.or_true, Bool.true_or, Bool.not_true, Bool.not_false, ge_iff_le, Fin.isValue, Fin.val_zero, Fin.val_one, Fin.val_two, true_and, and_true, true_implies, false_implies, forall_const, if_true, if_false, ite_true, ite_false, reduceIte, reduceCtorEq, true_or, or_true, and_self, implies_true, not_false_eq_true, not_true_eq_false, Nat.le_refl, Nat.zero_le, and_false, false_and, Nat.reduceAdd, Nat.reduceSub, Nat.reduceLT, Nat.reduceLeDiff, Nat.reduceMul, Nat.reduceEqDiff, Int.reduceAdd, Int.reduceNeg, Int.reduceToNat, Int.reduceLE, Int.reduceNatCast, Int.reduceSub, Int.reduceLT, Int.reduceEq, List.replicate_zero, List.replicate_succ, Int.reduceNatCast', Int32.reduceOfInt, Int32.reduceLT, Int32.reduceLE, Int32.reduceAdd, Int32.reduceSub, Int32.reduceMul, Int32.reduceToInt, Int32.reduceToNatClampNeg]
  exact hT

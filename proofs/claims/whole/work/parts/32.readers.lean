def f_eq (e u v x y : Int32) : Int32 := if e = 0 then f_bw (x + y) else if e = 1 then f_bw (x - y) else if e = 2 then f_bw (y - x) else if e = 3 then (if v < u then v else u) else (if u < v then v else u)
def f_bc (s0 p0 s1 p1 e0 e1 c p q s : Int32) : Int32 := if ¬ s = 24 then f_eq e0 (f_ch p s) (f_ch q s) (f_ch p s * f_fac c s0 p q s) (f_ch q s * f_fac c p0 p q s) else f_eq e1 (f_ch p s) (f_ch q s) (f_ch p s * f_fac c s1 p q s) (f_ch q s * f_fac c p1 p q s)
def T_BL_blendedChannel : ClassId → ClassId → zT := fun _ _ as h K => match as with
  | [.ref i, .int p, .int q, .int s] => zob h i 4 (fun fs => match fs with
    | [.int s0, .int p0, .int s1, .int p1, .int e0, .int e1, .int c] => K (.inl (some (.int (f_bc s0 p0 s1 p1 e0 e1 c p q s)))) h
    | _ => False)
  | _ => False
def E_BL_blendedChannel : ClassId → ClassId → Nat → Nat → Option zEn := fun cI cL kd i => match kd, i with
  | 0, 21 => some (2, none, true, true, 0, 0, T_CO_channel cI cL)
  | 1, 31 => some (5, some 4, true, true, 0, 0, T_BL_factor cI cL)
  | 0, 44 => some (1, none, true, true, 0, 0, T_BL_byteOfWeighted cI cL)
  | 0, 48 => some (2, none, true, true, 0, 0, zT_min)
  | 0, 53 => some (2, none, true, true, 0, 0, zT_max)
  | _, _ => none
theorem E_BL_blendedChannel_k : (∀ cI cL, E_BL_blendedChannel cI cL 0 21 = some (2, none, true, true, 0, 0, T_CO_channel cI cL)) ∧ (∀ cI cL, E_BL_blendedChannel cI cL 1 31 = some (5, some 4, true, true, 0, 0, T_BL_factor cI cL)) ∧ (∀ cI cL, E_BL_blendedChannel cI cL 0 44 = some (1, none, true, true, 0, 0, T_BL_byteOfWeighted cI cL)) ∧ (∀ cI cL, E_BL_blendedChannel cI cL 0 48 = some (2, none, true, true, 0, 0, zT_min)) ∧ (∀ cI cL, E_BL_blendedChannel cI cL 0 53 = some (2, none, true, true, 0, 0, zT_max)) := ⟨fun _ _ => rfl, fun _ _ => rfl, fun _ _ => rfl, fun _ _ => rfl, fun _ _ => rfl⟩
set_option maxHeartbeats 4000000 in
set_option maxRecDepth 100000 in
theorem C_BL_blendedChannel {l : Launch} (hl : l.stackTraces = false) : zC l y_BL_blendedChannel (Cond.code y_BL_blendedChannel prog_2_method_3_code 9 (some .int) :: wsG) (rmL 3 0 0) zcl true 0 0 T_BL_blendedChannel := by
  refine zC_of (G := G_BL) (E := E_BL_blendedChannel) (X := zXn) (SL := zSn) (NW := zNn) (CS := zCn) (ctor := false) hl (by decide) rfl rfl rfl G_BL_ok (fun z => by cases z) (fun _ _ z => by cases z) (fun _ _ _ _ z => by cases z) (List.mem_cons_of_mem _ ka_i) (fun _ _ _ z => by cases z) (fun _ z => by cases z) (by
    intro p e s m args below meth c D A cI cL hx hb hml hown hts hK hA hEX kd idx en hE
    unfold E_BL_blendedChannel at hE
    split at hE
    · cases hE; exact zRow_S (C_CO_channel hl) rfl (Or.inl ⟨_, _, rfl⟩) hx hb hml hown hts hK hA hEX (hin_c kb_CO_channel) (List.mem_cons_of_mem _ kn_CO) (List.mem_cons_of_mem _ ks_CO_channel) (Or.inr ⟨_, List.mem_cons_of_mem _ km_BL_21⟩) (by decide) (by decide) (by decide) rfl rfl
    · cases hE; exact zRow_V (C_BL_factor hl) rfl (Or.inl ⟨_, _, rfl⟩) hx hb hml hown hts hK hA hEX (hin_c kb_BL_factor) (List.mem_cons_of_mem _ kn_BL) (List.mem_cons_of_mem _ ki_BL_factor) (List.mem_cons_of_mem _ kv_BL_factor) rfl (Or.inl (List.mem_cons_of_mem _ km_BL_31)) (by decide) (by decide) (by decide) rfl rfl
    · cases hE; exact zRow_S (C_BL_byteOfWeighted hl) rfl (Or.inl ⟨_, _, rfl⟩) hx hb hml hown hts hK hA hEX (hin_c kb_BL_byteOfWeighted) (List.mem_cons_of_mem _ kn_BL) (List.mem_cons_of_mem _ ks_BL_byteOfWeighted) (Or.inl (List.mem_cons_of_mem _ km_BL_44)) (by decide) (by decide) (by decide) rfl rfl
    · cases hE; exact zRow_min hx hb hml hown hts (List.mem_cons_of_mem _ km_BL_48) (List.mem_cons_of_mem _ kj_s_min) (List.mem_cons_of_mem _ kj_n) (List.mem_cons_of_mem _ kj_c_min) (by decide) (by decide)
    · cases hE; exact zRow_max hx hb hml hown hts (List.mem_cons_of_mem _ km_BL_53) (List.mem_cons_of_mem _ kj_s_max) (List.mem_cons_of_mem _ kj_n) (List.mem_cons_of_mem _ kj_c_max) (by decide) (by decide)
    · cases hE) ?_
  intro cI cL as h K hT
  match as, hT with
  | [.ref i, .int p, .int q, .int s], hT =>
  obtain ⟨fs, hi, hT⟩ := zob_s hT
  match fs, hi, hT with
  | [.int s0, .int p0, .int s1, .int p1, .int e0, .int e1, .int c], hi, hT =>
  have hT : K (.inl (some (.int (f_bc s0 p0 s1 p1 e0 e1 c p q s)))) h := hT
  refine ⟨by simp [Value.category], by simp, fun Jd hc => zw_sound (J := fun _ => none) hc (fun _ _ z => by cases z) 81 0 _ _ _ _ _ _ ?_⟩
  simp (maxSteps := 4000000) only [zlc, zif0, zf3, D_BL_blendedChannel_0, D_BL_blendedChannel_1, G_BL_k, E_BL_blendedChannel_k, T_CO_channel, T_BL_factor, T_BL_byteOfWeighted, zT_min, zT_max, zti, Classical.not_not, hi, zw_S, zk_iconst, zk_bipush, zk_sipush, zk_ldc, zk_ldc_w, zk_aconst_null, zk_iload_n, zk_iload, zk_aload_n, zk_aload, zk_istore_n, zk_istore, zk_astore_n, zk_astore, zk_iinc, zk_iadd, zk_isub, zk_imul, zk_idiv, zk_iand, zk_ior, zk_ixor, zk_ishl, zk_ishr, zk_iushr, zk_i2l, zk_lcmp, zk_dup, zk_pop, zk_dup_x1, zk_dup2, zk_dup_x2, zk_goto, zk_ifCond, zk_if_icmp, zk_tableswitch, zk_getfield, zk_putfield, zk_iaload, zk_iastore, zk_laload, zk_lastore, zk_arraylength, zk_invokestatic, zk_invokevirtual, zk_invokespecial, zk_new, zk_newarray, zk_ireturn, zk_areturn, zk_return_, zi1_k, zi2_k, zr1_k, zri_k, zrii_k, zril_k, zvr_k, zl2_k, zv1_k, zv2_k, zv3_k, zli_k, zlr_k, zob_k, zai_k, zal_k, zfv_k, zlim_k, zlrm_k, zobm_k, zaim_k, zalm_k, zfvm_k, zgetf_k, zput_k, zcal_k, zrv_n, zrv_s, zswT_n, zswT_c, zgo_k, zcc_eq, zcc_ne, zcc_lt, zcc_ge, zcc_gt, zcc_le, zldj_k, zexc_k, znew_k, zial_k, zct_i, zct_l, zct_r, zct_n, zKK_r, zKK_x, znr_i, znr_0, znr_1, znr_v, znr_a, znr_o, znar_i, znar_r, znar_a, zfit_i, zfit_r, zfit_a, zbc, zlit, eq_self, List.getElem?_cons_zero, List.getElem?_cons_succ, List.set_cons_zero, List.set_cons_succ, List.take_succ_cons, List.take_zero, List.drop_succ_cons, List.drop_zero, List.reverse_cons, List.reverse_nil, List.nil_append, List.cons_append, List.append_nil, List.length_cons, List.length_nil, List.map_cons, List.map_nil, List.sum_cons, List.sum_nil, Option.toList_some, Option.toList_none, Nat.zero_add, Nat.add_zero, Bool.or_false, Bool.false_or, Bool.or_true, Bool.true_or, Bool.not_true, Bool.not_false, ge_iff_le, Fin.isValue, Fin.val_zero, Fin.val_one, Fin.val_two, true_and, and_true, true_implies, false_implies, forall_const, if_true, if_false, ite_true, ite_false, reduceIte, reduceCtorEq, true_or, or_true, and_self, implies_true, not_false_eq_true, not_true_eq_false, Nat.le_refl, Nat.zero_le, and_false, false_and, Nat.reduceAdd, Nat.reduceSub, Nat.reduceLT, Nat.reduceLeDiff, Nat.reduceMul, Nat.reduceEqDiff, Int.reduceAdd, Int.reduceNeg, Int.reduceToNat, Int.reduceLE, Int.reduceNatCast, Int.reduceSub, Int.reduceLT, Int.reduceEq, List.replicate_zero, List.replicate_succ, Int.reduceNatCast', Int32.reduceOfInt, Int32.reduceLT, Int32.reduceLE, Int32.reduceAdd, Int32.reduceSub, Int32.reduceMul, Int32.reduceToInt, Int32.reduceToNatClampNeg]
  simp only [f_bc, f_eq, zKi K, Classical.not_not] at hT ⊢
  exact hT
def f_bl (s0 p0 s1 p1 e0 e1 c p q : Int32) : Int32 := (((0 ||| (f_bc s0 p0 s1 p1 e0 e1 c p q 0 <<< ((0 : Int32) &&& 31))) ||| (f_bc s0 p0 s1 p1 e0 e1 c p q 8 <<< ((8 : Int32) &&& 31))) ||| (f_bc s0 p0 s1 p1 e0 e1 c p q 16 <<< ((16 : Int32) &&& 31))) ||| (f_bc s0 p0 s1 p1 e0 e1 c p q 24 <<< ((24 : Int32) &&& 31))
def T_BL_blended : ClassId → ClassId → zT := fun _ _ as h K => match as with
  | [.ref i, .int p, .int q] => zob h i 4 (fun fs => match fs with
    | [.int s0, .int p0, .int s1, .int p1, .int e0, .int e1, .int c] => K (.inl (some (.int (f_bl s0 p0 s1 p1 e0 e1 c p q)))) h
    | _ => False)
  | _ => False
def E_BL_blended : ClassId → ClassId → Nat → Nat → Option zEn := fun cI cL kd i => match kd, i with
  | 1, 17 => some (4, some 4, true, true, 0, 0, T_BL_blendedChannel cI cL)
  | _, _ => none
theorem E_BL_blended_k : (∀ cI cL, E_BL_blended cI cL 1 17 = some (4, some 4, true, true, 0, 0, T_BL_blendedChannel cI cL)) := fun _ _ => rfl
set_option maxHeartbeats 4000000 in
set_option maxRecDepth 100000 in
theorem C_BL_blended {l : Launch} (hl : l.stackTraces = false) : zC l y_BL_blended (Cond.code y_BL_blended prog_2_method_2_code 5 (some .int) :: wsG) (rmL 4 0 0) zcl true 0 0 T_BL_blended := by
  refine zC_of (G := zGn) (E := E_BL_blended) (X := zXn) (SL := zSn) (NW := zNn) (CS := zCn) (ctor := false) hl (by decide) rfl rfl rfl (fun _ _ _ _ _ z => by cases z) (fun z => by cases z) (fun _ _ z => by cases z) (fun _ _ _ _ z => by cases z) (List.mem_cons_of_mem _ ka_i) (fun _ _ _ z => by cases z) (fun _ z => by cases z) (by
    intro p e s m args below meth c D A cI cL hx hb hml hown hts hK hA hEX kd idx en hE
    unfold E_BL_blended at hE
    split at hE
    · cases hE; exact zRow_V (C_BL_blendedChannel hl) rfl (Or.inl ⟨_, _, rfl⟩) hx hb hml hown hts hK hA hEX (hin_c kb_BL_blendedChannel) (List.mem_cons_of_mem _ kn_BL) (List.mem_cons_of_mem _ ki_BL_blendedChannel) (List.mem_cons_of_mem _ kv_BL_blendedChannel) rfl (Or.inl (List.mem_cons_of_mem _ km_BL_17)) (by decide) (by decide) (by decide) rfl rfl
    · cases hE) ?_
  intro cI cL as h K hT
  match as, hT with
  | [.ref i, .int p, .int q], hT =>
  obtain ⟨fs, hi, hT⟩ := zob_s hT
  match fs, hi, hT with
  | [.int s0, .int p0, .int s1, .int p1, .int e0, .int e1, .int c], hi, hT =>
  have hT : K (.inl (some (.int (f_bl s0 p0 s1 p1 e0 e1 c p q)))) h := hT
  refine ⟨by simp [Value.category], by simp, fun Jd hc => zw_sound (J := fun _ => none) hc (fun _ _ z => by cases z) 90 0 _ _ _ _ _ _ ?_⟩
  simp (maxSteps := 4000000) only [zlc, zif0, zf3, D_BL_blended, E_BL_blended_k, T_BL_blendedChannel, Classical.not_not, hi, zw_S, zk_iconst, zk_bipush, zk_sipush, zk_ldc, zk_ldc_w, zk_aconst_null, zk_iload_n, zk_iload, zk_aload_n, zk_aload, zk_istore_n, zk_istore, zk_astore_n, zk_astore, zk_iinc, zk_iadd, zk_isub, zk_imul, zk_idiv, zk_iand, zk_ior, zk_ixor, zk_ishl, zk_ishr, zk_iushr, zk_i2l, zk_lcmp, zk_dup, zk_pop, zk_dup_x1, zk_dup2, zk_dup_x2, zk_goto, zk_ifCond, zk_if_icmp, zk_tableswitch, zk_getfield, zk_putfield, zk_iaload, zk_iastore, zk_laload, zk_lastore, zk_arraylength, zk_invokestatic, zk_invokevirtual, zk_invokespecial, zk_new, zk_newarray, zk_ireturn, zk_areturn, zk_return_, zi1_k, zi2_k, zr1_k, zri_k, zrii_k, zril_k, zvr_k, zl2_k, zv1_k, zv2_k, zv3_k, zli_k, zlr_k, zob_k, zai_k, zal_k, zfv_k, zlim_k, zlrm_k, zobm_k, zaim_k, zalm_k, zfvm_k, zgetf_k, zput_k, zcal_k, zrv_n, zrv_s, zswT_n, zswT_c, zgo_k, zcc_eq, zcc_ne, zcc_lt, zcc_ge, zcc_gt, zcc_le, zldj_k, zexc_k, znew_k, zial_k, zct_i, zct_l, zct_r, zct_n, zKK_r, zKK_x, znr_i, znr_0, znr_1, znr_v, znr_a, znr_o, znar_i, znar_r, znar_a, zfit_i, zfit_r, zfit_a, zbc, zlit, eq_self, List.getElem?_cons_zero, List.getElem?_cons_succ, List.set_cons_zero, List.set_cons_succ, List.take_succ_cons, List.take_zero, List.drop_succ_cons, List.drop_zero, List.reverse_cons, List.reverse_nil, List.nil_append, List.cons_append, List.append_nil, List.length_cons, List.length_nil, List.map_cons, List.map_nil, List.sum_cons, List.sum_nil, Option.toList_some, Option.toList_none, Nat.zero_add, Nat.add_zero, Bool.or_false, Bool.false_or, Bool.or_true, Bool.true_or, Bool.not_true, Bool.not_false, ge_iff_le, Fin.isValue, Fin.val_zero, Fin.val_one, Fin.val_two, true_and, and_true, true_implies, false_implies, forall_const, if_true, if_false, ite_true, ite_false, reduceIte, reduceCtorEq, true_or, or_true, and_self, implies_true, not_false_eq_true, not_true_eq_false, Nat.le_refl, Nat.zero_le, and_false, false_and, Nat.reduceAdd, Nat.reduceSub, Nat.reduceLT, Nat.reduceLeDiff, Nat.reduceMul, Nat.reduceEqDiff, Int.reduceAdd, Int.reduceNeg, Int.reduceToNat, Int.reduceLE, Int.reduceNatCast, Int.reduceSub, Int.reduceLT, Int.reduceEq, List.replicate_zero, List.replicate_succ, Int.reduceNatCast', Int32.reduceOfInt, Int32.reduceLT, Int32.reduceLE, Int32.reduceAdd, Int32.reduceSub, Int32.reduceMul, Int32.reduceToInt, Int32.reduceToNatClampNeg]
  exact hT
def f_b1 (n i s acc : Int32) : Int32 := if n &&& ((1 : Int32) <<< (i &&& 31)) = 0 then acc else acc ||| ((255 : Int32) <<< (s &&& 31))
def f_bits (n : Int32) : Int32 := f_b1 n 3 24 (f_b1 n 2 16 (f_b1 n 1 8 (f_b1 n 0 0 0)))
def T_CO_bitsOf : ClassId → ClassId → zT := fun _ _ as h K => match as with
  | [.int n] => K (.inl (some (.int (f_bits n)))) h
  | _ => False
set_option maxHeartbeats 4000000 in
set_option maxRecDepth 100000 in
theorem C_CO_bitsOf {l : Launch} (hl : l.stackTraces = false) : zC l y_CO_bitsOf (Cond.code y_CO_bitsOf prog_3_method_3_code 3 (some .int) :: wsG) (rmL 1 0 0) zcl true 0 0 T_CO_bitsOf := by
  refine zC_of (G := zGn) (E := zEn0) (X := zXn) (SL := zSn) (NW := zNn) (CS := zCn) (ctor := false) hl (by decide) rfl rfl rfl (fun _ _ _ _ _ z => by cases z) (fun z => by cases z) (fun _ _ z => by cases z) (fun _ _ _ _ z => by cases z) (List.mem_cons_of_mem _ ka_i) (fun _ _ _ z => by cases z) (fun _ z => by cases z) (fun _ _ _ _ _ _ _ _ _ _ _ _ _ _ _ _ _ _ _ _ _ _ _ z => by cases z) ?_
  intro cI cL as h K hT
  match as, hT with
  | [.int n], hT =>
  have hT : K (.inl (some (.int (f_bits n)))) h := hT
  refine ⟨by simp [Value.category], by simp, fun Jd hc => zw_sound (J := fun _ => none) hc (fun _ _ z => by cases z) 120 0 _ _ _ _ _ _ ?_⟩
  simp (maxSteps := 4000000) only [zlc, zif0, zf3, D_CO_bitsOf, Classical.not_not, zw_S, zk_iconst, zk_bipush, zk_sipush, zk_ldc, zk_ldc_w, zk_aconst_null, zk_iload_n, zk_iload, zk_aload_n, zk_aload, zk_istore_n, zk_istore, zk_astore_n, zk_astore, zk_iinc, zk_iadd, zk_isub, zk_imul, zk_idiv, zk_iand, zk_ior, zk_ixor, zk_ishl, zk_ishr, zk_iushr, zk_i2l, zk_lcmp, zk_dup, zk_pop, zk_dup_x1, zk_dup2, zk_dup_x2, zk_goto, zk_ifCond, zk_if_icmp, zk_tableswitch, zk_getfield, zk_putfield, zk_iaload, zk_iastore, zk_laload, zk_lastore, zk_arraylength, zk_invokestatic, zk_invokevirtual, zk_invokespecial, zk_new, zk_newarray, zk_ireturn, zk_areturn, zk_return_, zi1_k, zi2_k, zr1_k, zri_k, zrii_k, zril_k, zvr_k, zl2_k, zv1_k, zv2_k, zv3_k, zli_k, zlr_k, zob_k, zai_k, zal_k, zfv_k, zlim_k, zlrm_k, zobm_k, zaim_k, zalm_k, zfvm_k, zgetf_k, zput_k, zcal_k, zrv_n, zrv_s, zswT_n, zswT_c, zgo_k, zcc_eq, zcc_ne, zcc_lt, zcc_ge, zcc_gt, zcc_le, zldj_k, zexc_k, znew_k, zial_k, zct_i, zct_l, zct_r, zct_n, zKK_r, zKK_x, znr_i, znr_0, znr_1, znr_v, znr_a, znr_o, znar_i, znar_r, znar_a, zfit_i, zfit_r, zfit_a, zbc, zlit, eq_self, List.getElem?_cons_zero, List.getElem?_cons_succ, List.set_cons_zero, List.set_cons_succ, List.take_succ_cons, List.take_zero, List.drop_succ_cons, List.drop_zero, List.reverse_cons, List.reverse_nil, List.nil_append, List.cons_append, List.append_nil, List.length_cons, List.length_nil, List.map_cons, List.map_nil, List.sum_cons, List.sum_nil, Option.toList_some, Option.toList_none, Nat.zero_add, Nat.add_zero, Bool.or_false, Bool.false_or, Bool.or_true, Bool.true_or, Bool.not_true, Bool.not_false, ge_iff_le, Fin.isValue, Fin.val_zero, Fin.val_one, Fin.val_two, true_and, and_true, true_implies, false_implies, forall_const, if_true, if_false, ite_true, ite_false, reduceIte, reduceCtorEq, true_or, or_true, and_self, implies_true, not_false_eq_true, not_true_eq_false, Nat.le_refl, Nat.zero_le, and_false, false_and, Nat.reduceAdd, Nat.reduceSub, Nat.reduceLT, Nat.reduceLeDiff, Nat.reduceMul, Nat.reduceEqDiff, Int.reduceAdd, Int.reduceNeg, Int.reduceToNat, Int.reduceLE, Int.reduceNatCast, Int.reduceSub, Int.reduceLT, Int.reduceEq, List.replicate_zero, List.replicate_succ, Int.reduceNatCast', Int32.reduceOfInt, Int32.reduceLT, Int32.reduceLE, Int32.reduceAdd, Int32.reduceSub, Int32.reduceMul, Int32.reduceToInt, Int32.reduceToNatClampNeg]
  repeat' (first | (intro _) | (apply And.intro))
  all_goals (first | exact hT | (simp only [f_bits, f_b1, *, if_true, if_false, reduceIte, not_true_eq_false, not_false_eq_true] at hT; exact hT) | (simp [f_bits, f_b1, *] at hT; exact hT) | (simp [f_bits, f_b1, *] at hT ⊢; exact hT) | (simp_all [f_bits, f_b1]; done))
def T_PT_ruleOf : ClassId → ClassId → zT := fun _ _ as h K => match as with
  | [.ref i, .int s] => zob h i 0 (fun fs => match fs with
    | [_, _, _, _, .ref a, .ref b, _, _, _, _] => (s = 0 → K (.inl (some (.ref a))) h) ∧ (¬ s = 0 → K (.inl (some (.ref b))) h)
    | _ => False)
  | _ => False
set_option maxHeartbeats 4000000 in
set_option maxRecDepth 100000 in
theorem C_PT_ruleOf {l : Launch} (hl : l.stackTraces = false) : zC l y_PT_ruleOf (Cond.code y_PT_ruleOf prog_1_method_18_code 2 (some (.object "PlaceTests$StencilRule")) :: wsG) (rmL 1 0 0) zcl true 0 0 T_PT_ruleOf := by
  refine zC_of (G := G_PT) (E := zEn0) (X := zXn) (SL := zSn) (NW := zNn) (CS := zCn) (ctor := false) hl (by decide) rfl rfl rfl G_PT_ok (fun z => by cases z) (fun _ _ z => by cases z) (fun _ _ _ _ z => by cases z) (List.mem_cons_of_mem _ ka_i) (fun _ _ _ z => by cases z) (fun _ z => by cases z) (fun _ _ _ _ _ _ _ _ _ _ _ _ _ _ _ _ _ _ _ _ _ _ _ z => by cases z) ?_
  intro cI cL as h K hT
  match as, hT with
  | [.ref i, .int s], hT =>
  obtain ⟨fs, hi, hT⟩ := zob_s hT
  match fs, hi, hT with
  | [u0, u1, u2, u3, .ref a, .ref b, u4, u5, u6, u7], hi, hT =>
  have hT : (s = 0 → K (.inl (some (.ref a))) h) ∧ (¬ s = 0 → K (.inl (some (.ref b))) h) := hT
  refine ⟨by simp [Value.category], by simp, fun Jd hc => zw_sound (J := fun _ => none) hc (fun _ _ z => by cases z) 13 0 _ _ _ _ _ _ ?_⟩
  simp (maxSteps := 4000000) only [zlc, zif0, zf3, D_PT_ruleOf, G_PT_k, Classical.not_not, hi, zw_S, zk_iconst, zk_bipush, zk_sipush, zk_ldc, zk_ldc_w, zk_aconst_null, zk_iload_n, zk_iload, zk_aload_n, zk_aload, zk_istore_n, zk_istore, zk_astore_n, zk_astore, zk_iinc, zk_iadd, zk_isub, zk_imul, zk_idiv, zk_iand, zk_ior, zk_ixor, zk_ishl, zk_ishr, zk_iushr, zk_i2l, zk_lcmp, zk_dup, zk_pop, zk_dup_x1, zk_dup2, zk_dup_x2, zk_goto, zk_ifCond, zk_if_icmp, zk_tableswitch, zk_getfield, zk_putfield, zk_iaload, zk_iastore, zk_laload, zk_lastore, zk_arraylength, zk_invokestatic, zk_invokevirtual, zk_invokespecial, zk_new, zk_newarray, zk_ireturn, zk_areturn, zk_return_, zi1_k, zi2_k, zr1_k, zri_k, zrii_k, zril_k, zvr_k, zl2_k, zv1_k, zv2_k, zv3_k, zli_k, zlr_k, zob_k, zai_k, zal_k, zfv_k, zlim_k, zlrm_k, zobm_k, zaim_k, zalm_k, zfvm_k, zgetf_k, zput_k, zcal_k, zrv_n, zrv_s, zswT_n, zswT_c, zgo_k, zcc_eq, zcc_ne, zcc_lt, zcc_ge, zcc_gt, zcc_le, zldj_k, zexc_k, znew_k, zial_k, zct_i, zct_l, zct_r, zct_n, zKK_r, zKK_x, znr_i, znr_0, znr_1, znr_v, znr_a, znr_o, znar_i, znar_r, znar_a, zfit_i, zfit_r, zfit_a, zbc, zlit, eq_self, List.getElem?_cons_zero, List.getElem?_cons_succ, List.set_cons_zero, List.set_cons_succ, List.take_succ_cons, List.take_zero, List.drop_succ_cons, List.drop_zero, List.reverse_cons, List.reverse_nil, List.nil_append, List.cons_append, List.append_nil, List.length_cons, List.length_nil, List.map_cons, List.map_nil, List.sum_cons, List.sum_nil, Option.toList_some, Option.toList_none, Nat.zero_add, Nat.add_zero, Bool.or_false, Bool.false_or, Bool.or_true, Bool.true_or, Bool.not_true, Bool.not_false, ge_iff_le, Fin.isValue, Fin.val_zero, Fin.val_one, Fin.val_two, true_and, and_true, true_implies, false_implies, forall_const, if_true, if_false, ite_true, ite_false, reduceIte, reduceCtorEq, true_or, or_true, and_self, implies_true, not_false_eq_true, not_true_eq_false, Nat.le_refl, Nat.zero_le, and_false, false_and, Nat.reduceAdd, Nat.reduceSub, Nat.reduceLT, Nat.reduceLeDiff, Nat.reduceMul, Nat.reduceEqDiff, Int.reduceAdd, Int.reduceNeg, Int.reduceToNat, Int.reduceLE, Int.reduceNatCast, Int.reduceSub, Int.reduceLT, Int.reduceEq, List.replicate_zero, List.replicate_succ, Int.reduceNatCast', Int32.reduceOfInt, Int32.reduceLT, Int32.reduceLE, Int32.reduceAdd, Int32.reduceSub, Int32.reduceMul, Int32.reduceToInt, Int32.reduceToNatClampNeg]
  exact ⟨fun z => hT.2 z, fun z => hT.1 (by simpa using z)⟩
def f_new (lg s0 p0 s1 p1 e0 e1 c p q : Int32) : Int32 := if lg = -1 then (if e0 = -1 then p else f_bl s0 p0 s1 p1 e0 e1 c p q) else f_lg lg p q
def T_PT_newColour : ClassId → ClassId → zT := fun _ _ as h K => match as with
  | [.ref i, .int p, .int q] => zob h i 0 (fun fs => match fs with
    | [_, _, _, _, _, _, .ref b, .int lg, _, _] => zob h b 4 (fun bs => match bs with
      | [.int s0, .int p0, .int s1, .int p1, .int e0, .int e1, .int c] => K (.inl (some (.int (f_new lg s0 p0 s1 p1 e0 e1 c p q)))) h
      | _ => False)
    | _ => False)
  | _ => False
def E_PT_newColour : ClassId → ClassId → Nat → Nat → Option zEn := fun cI cL kd i => match kd, i with
  | 0, 254 => some (3, none, true, true, 0, 0, T_CO_byLogic cI cL)
  | 1, 257 => some (3, some 4, true, true, 0, 0, T_BL_blended cI cL)
  | _, _ => none
theorem E_PT_newColour_k : (∀ cI cL, E_PT_newColour cI cL 0 254 = some (3, none, true, true, 0, 0, T_CO_byLogic cI cL)) ∧ (∀ cI cL, E_PT_newColour cI cL 1 257 = some (3, some 4, true, true, 0, 0, T_BL_blended cI cL)) := ⟨fun _ _ => rfl, fun _ _ => rfl⟩
set_option maxHeartbeats 4000000 in
set_option maxRecDepth 100000 in
theorem C_PT_newColour {l : Launch} (hl : l.stackTraces = false) : zC l y_PT_newColour (Cond.code y_PT_newColour prog_1_method_16_code 3 (some .int) :: wsG) (rmL 5 0 0) zcl true 0 0 T_PT_newColour := by
  refine zC_of (G := G_PT) (E := E_PT_newColour) (X := zXn) (SL := zSn) (NW := zNn) (CS := zCn) (ctor := false) hl (by decide) rfl rfl rfl G_PT_ok (fun z => by cases z) (fun _ _ z => by cases z) (fun _ _ _ _ z => by cases z) (List.mem_cons_of_mem _ ka_i) (fun _ _ _ z => by cases z) (fun _ z => by cases z) (by
    intro p e s m args below meth c D A cI cL hx hb hml hown hts hK hA hEX kd idx en hE
    unfold E_PT_newColour at hE
    split at hE
    · cases hE; exact zRow_S (C_CO_byLogic hl) rfl (Or.inl ⟨_, _, rfl⟩) hx hb hml hown hts hK hA hEX (hin_c kb_CO_byLogic) (List.mem_cons_of_mem _ kn_CO) (List.mem_cons_of_mem _ ks_CO_byLogic) (Or.inr ⟨_, List.mem_cons_of_mem _ km_PT_254⟩) (by decide) (by decide) (by decide) rfl rfl
    · cases hE; exact zRow_V (C_BL_blended hl) rfl (Or.inl ⟨_, _, rfl⟩) hx hb hml hown hts hK hA hEX (hin_c kb_BL_blended) (List.mem_cons_of_mem _ kn_BL) (List.mem_cons_of_mem _ ki_BL_blended) (List.mem_cons_of_mem _ kv_BL_blended) rfl (Or.inr ⟨_, List.mem_cons_of_mem _ km_PT_257⟩) (by decide) (by decide) (by decide) rfl rfl
    · cases hE) ?_
  intro cI cL as h K hT
  match as, hT with
  | [.ref i, .int p, .int q], hT =>
  obtain ⟨fs, hi, hT⟩ := zob_s hT
  match fs, hi, hT with
  | [u0, u1, u2, u3, u4, u5, .ref b, .int lg, u6, u7], hi, hT =>
  obtain ⟨bs, hb, hT⟩ := zob_s hT
  match bs, hb, hT with
  | [.int s0, .int p0, .int s1, .int p1, .int e0, .int e1, .int c], hb, hT =>
  have hT : K (.inl (some (.int (f_new lg s0 p0 s1 p1 e0 e1 c p q)))) h := hT
  refine ⟨by simp [Value.category], by simp, fun Jd hc => zw_sound (J := fun _ => none) hc (fun _ _ z => by cases z) 28 0 _ _ _ _ _ _ ?_⟩
  simp (maxSteps := 4000000) only [zlc, zif0, zf3, D_PT_newColour, G_PT_k, E_PT_newColour_k, T_CO_byLogic, T_BL_blended, Classical.not_not, hi, hb, zw_S, zk_iconst, zk_bipush, zk_sipush, zk_ldc, zk_ldc_w, zk_aconst_null, zk_iload_n, zk_iload, zk_aload_n, zk_aload, zk_istore_n, zk_istore, zk_astore_n, zk_astore, zk_iinc, zk_iadd, zk_isub, zk_imul, zk_idiv, zk_iand, zk_ior, zk_ixor, zk_ishl, zk_ishr, zk_iushr, zk_i2l, zk_lcmp, zk_dup, zk_pop, zk_dup_x1, zk_dup2, zk_dup_x2, zk_goto, zk_ifCond, zk_if_icmp, zk_tableswitch, zk_getfield, zk_putfield, zk_iaload, zk_iastore, zk_laload, zk_lastore, zk_arraylength, zk_invokestatic, zk_invokevirtual, zk_invokespecial, zk_new, zk_newarray, zk_ireturn, zk_areturn, zk_return_, zi1_k, zi2_k, zr1_k, zri_k, zrii_k, zril_k, zvr_k, zl2_k, zv1_k, zv2_k, zv3_k, zli_k, zlr_k, zob_k, zai_k, zal_k, zfv_k, zlim_k, zlrm_k, zobm_k, zaim_k, zalm_k, zfvm_k, zgetf_k, zput_k, zcal_k, zrv_n, zrv_s, zswT_n, zswT_c, zgo_k, zcc_eq, zcc_ne, zcc_lt, zcc_ge, zcc_gt, zcc_le, zldj_k, zexc_k, znew_k, zial_k, zct_i, zct_l, zct_r, zct_n, zKK_r, zKK_x, znr_i, znr_0, znr_1, znr_v, znr_a, znr_o, znar_i, znar_r, znar_a, zfit_i, zfit_r, zfit_a, zbc, zlit, eq_self, List.getElem?_cons_zero, List.getElem?_cons_succ, List.set_cons_zero, List.set_cons_succ, List.take_succ_cons, List.take_zero, List.drop_succ_cons, List.drop_zero, List.reverse_cons, List.reverse_nil, List.nil_append, List.cons_append, List.append_nil, List.length_cons, List.length_nil, List.map_cons, List.map_nil, List.sum_cons, List.sum_nil, Option.toList_some, Option.toList_none, Nat.zero_add, Nat.add_zero, Bool.or_false, Bool.false_or, Bool.or_true, Bool.true_or, Bool.not_true, Bool.not_false, ge_iff_le, Fin.isValue, Fin.val_zero, Fin.val_one, Fin.val_two, true_and, and_true, true_implies, false_implies, forall_const, if_true, if_false, ite_true, ite_false, reduceIte, reduceCtorEq, true_or, or_true, and_self, implies_true, not_false_eq_true, not_true_eq_false, Nat.le_refl, Nat.zero_le, and_false, false_and, Nat.reduceAdd, Nat.reduceSub, Nat.reduceLT, Nat.reduceLeDiff, Nat.reduceMul, Nat.reduceEqDiff, Int.reduceAdd, Int.reduceNeg, Int.reduceToNat, Int.reduceLE, Int.reduceNatCast, Int.reduceSub, Int.reduceLT, Int.reduceEq, List.replicate_zero, List.replicate_succ, Int.reduceNatCast', Int32.reduceOfInt, Int32.reduceLT, Int32.reduceLE, Int32.reduceAdd, Int32.reduceSub, Int32.reduceMul, Int32.reduceToInt, Int32.reduceToNatClampNeg]
  repeat' (first | (intro _) | (apply And.intro))
  all_goals (first | exact hT | (simp only [f_new, *, if_true, if_false, reduceIte, not_true_eq_false, not_false_eq_true] at hT; exact hT) | (simp [f_new, *] at hT; exact hT) | (simp [f_new, *] at hT ⊢; exact hT) | (simp_all [f_new]; done))

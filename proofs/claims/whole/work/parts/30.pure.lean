theorem zti (x : Int32) : ((x.toInt = 0) = (x = 0)) ∧ ((x.toInt = 1) = (x = 1)) ∧ ((x.toInt = 2) = (x = 2)) ∧ ((x.toInt = 3) = (x = 3)) ∧ ((x.toInt = 4) = (x = 4)) ∧ ((x.toInt = 5) = (x = 5)) ∧ ((x.toInt = 6) = (x = 6)) ∧ ((x.toInt = 7) = (x = 7)) ∧ ((x.toInt = 8) = (x = 8)) ∧ ((x.toInt = 9) = (x = 9)) ∧ ((x.toInt = 10) = (x = 10)) ∧ ((x.toInt = 11) = (x = 11)) ∧ ((x.toInt = 12) = (x = 12)) ∧ ((x.toInt = 13) = (x = 13)) ∧ ((x.toInt = 14) = (x = 14)) ∧ ((x.toInt = 15) = (x = 15)) := ⟨propext ⟨fun h => Int32.toInt_inj.mp h, fun h => by rw [h]; rfl⟩, propext ⟨fun h => Int32.toInt_inj.mp h, fun h => by rw [h]; rfl⟩, propext ⟨fun h => Int32.toInt_inj.mp h, fun h => by rw [h]; rfl⟩, propext ⟨fun h => Int32.toInt_inj.mp h, fun h => by rw [h]; rfl⟩, propext ⟨fun h => Int32.toInt_inj.mp h, fun h => by rw [h]; rfl⟩, propext ⟨fun h => Int32.toInt_inj.mp h, fun h => by rw [h]; rfl⟩, propext ⟨fun h => Int32.toInt_inj.mp h, fun h => by rw [h]; rfl⟩, propext ⟨fun h => Int32.toInt_inj.mp h, fun h => by rw [h]; rfl⟩, propext ⟨fun h => Int32.toInt_inj.mp h, fun h => by rw [h]; rfl⟩, propext ⟨fun h => Int32.toInt_inj.mp h, fun h => by rw [h]; rfl⟩, propext ⟨fun h => Int32.toInt_inj.mp h, fun h => by rw [h]; rfl⟩, propext ⟨fun h => Int32.toInt_inj.mp h, fun h => by rw [h]; rfl⟩, propext ⟨fun h => Int32.toInt_inj.mp h, fun h => by rw [h]; rfl⟩, propext ⟨fun h => Int32.toInt_inj.mp h, fun h => by rw [h]; rfl⟩, propext ⟨fun h => Int32.toInt_inj.mp h, fun h => by rw [h]; rfl⟩, propext ⟨fun h => Int32.toInt_inj.mp h, fun h => by rw [h]; rfl⟩⟩
theorem zKi (K : zO → zH → Prop) (h : zH) {c : Prop} [Decidable c] (a b : Int32) : K (.inl (some (.int (if c then a else b)))) h = ((c → K (.inl (some (.int a))) h) ∧ (¬ c → K (.inl (some (.int b))) h)) := by
  by_cases z : c
  · simp [z]
  · simp [z]
theorem zf3 : ((3 : Fin 4) : Nat) = 3 := rfl
theorem zif0 {c : Prop} [Decidable c] : ((if c then (1 : Int32) else 0) = 0) = ¬ c := by
  by_cases h : c
  · simp [h]
  · simp [h]
def f_wi (n a b : Int32) : Int32 := if n < a then 0 else if b < n then 0 else 1
theorem f_wi_0 (n a b : Int32) : (f_wi n a b = 0) = ¬ (a ≤ n ∧ n ≤ b) := by
  unfold f_wi
  by_cases h1 : n < a
  · simp [h1, Int32.not_le.mpr h1]
  · by_cases h2 : b < n
    · simp [h1, h2, Int32.not_le.mpr h2]
    · simp [h1, h2, Int32.not_lt.mp h1, Int32.not_lt.mp h2]
theorem znr_wi (n a b : Int32) : znr (some .boolean) (some (.int (f_wi n a b))) = True := by
  unfold f_wi
  split
  · exact znr_0
  · split
    · exact znr_0
    · exact znr_1
def T_PT_isWithin : ClassId → ClassId → zT := fun _ _ as h K => match as with
  | [.int n, .int a, .int b] => K (.inl (some (.int (f_wi n a b)))) h
  | _ => False
set_option maxHeartbeats 4000000 in
set_option maxRecDepth 100000 in
theorem C_PT_isWithin {l : Launch} (hl : l.stackTraces = false) : zC l y_PT_isWithin (Cond.code y_PT_isWithin prog_1_method_19_code 3 (some .boolean) :: wsG) (rmL 1 0 0) zcl true 0 0 T_PT_isWithin := by
  refine zC_of (G := zGn) (E := zEn0) (X := zXn) (SL := zSn) (NW := zNn) (CS := zCn) (ctor := false) hl (by decide) rfl rfl rfl (fun _ _ _ _ _ z => by cases z) (fun z => by cases z) (fun _ _ z => by cases z) (fun _ _ _ _ z => by cases z) (List.mem_cons_of_mem _ ka_i) (fun _ _ _ z => by cases z) (fun _ z => by cases z) (fun _ _ _ _ _ _ _ _ _ _ _ _ _ _ _ _ _ _ _ _ _ _ _ z => by cases z) ?_
  intro cI cL as h K hT
  match as, hT with
  | [.int n, .int a, .int b], hT =>
  have hT : K (.inl (some (.int (f_wi n a b)))) h := hT
  refine ⟨by simp [Value.category], by simp, fun Jd hc => zw_sound (J := fun _ => none) hc (fun _ _ z => by cases z) 15 0 _ _ _ _ _ _ ?_⟩
  simp (maxSteps := 4000000) only [zlc, zif0, zf3, D_PT_isWithin, Classical.not_not, zw_S, zk_iconst, zk_bipush, zk_sipush, zk_ldc, zk_ldc_w, zk_aconst_null, zk_iload_n, zk_iload, zk_aload_n, zk_aload, zk_istore_n, zk_istore, zk_astore_n, zk_astore, zk_iinc, zk_iadd, zk_isub, zk_imul, zk_idiv, zk_iand, zk_ior, zk_ixor, zk_ishl, zk_ishr, zk_iushr, zk_i2l, zk_lcmp, zk_dup, zk_pop, zk_dup_x1, zk_dup2, zk_dup_x2, zk_goto, zk_ifCond, zk_if_icmp, zk_tableswitch, zk_getfield, zk_putfield, zk_iaload, zk_iastore, zk_laload, zk_lastore, zk_arraylength, zk_invokestatic, zk_invokevirtual, zk_invokespecial, zk_new, zk_newarray, zk_ireturn, zk_areturn, zk_return_, zi1_k, zi2_k, zr1_k, zri_k, zrii_k, zril_k, zvr_k, zl2_k, zv1_k, zv2_k, zv3_k, zli_k, zlr_k, zob_k, zai_k, zal_k, zfv_k, zlim_k, zlrm_k, zobm_k, zaim_k, zalm_k, zfvm_k, zgetf_k, zput_k, zcal_k, zrv_n, zrv_s, zswT_n, zswT_c, zgo_k, zcc_eq, zcc_ne, zcc_lt, zcc_ge, zcc_gt, zcc_le, zldj_k, zexc_k, znew_k, zial_k, zct_i, zct_l, zct_r, zct_n, zKK_r, zKK_x, znr_i, znr_0, znr_1, znr_v, znr_a, znr_o, znar_i, znar_r, znar_a, zfit_i, zfit_r, zfit_a, zbc, zlit, eq_self, List.getElem?_cons_zero, List.getElem?_cons_succ, List.set_cons_zero, List.set_cons_succ, List.take_succ_cons, List.take_zero, List.drop_succ_cons, List.drop_zero, List.reverse_cons, List.reverse_nil, List.nil_append, List.cons_append, List.append_nil, List.length_cons, List.length_nil, List.map_cons, List.map_nil, List.sum_cons, List.sum_nil, Option.toList_some, Option.toList_none, Nat.zero_add, Nat.add_zero, Bool.or_false, Bool.false_or, Bool.or_true, Bool.true_or, Bool.not_true, Bool.not_false, ge_iff_le, Fin.isValue, Fin.val_zero, Fin.val_one, Fin.val_two, true_and, and_true, true_implies, false_implies, forall_const, if_true, if_false, ite_true, ite_false, reduceIte, reduceCtorEq, true_or, or_true, and_self, implies_true, not_false_eq_true, not_true_eq_false, Nat.le_refl, Nat.zero_le, and_false, false_and, Nat.reduceAdd, Nat.reduceSub, Nat.reduceLT, Nat.reduceLeDiff, Nat.reduceMul, Nat.reduceEqDiff, Int.reduceAdd, Int.reduceNeg, Int.reduceToNat, Int.reduceLE, Int.reduceNatCast, Int.reduceSub, Int.reduceLT, Int.reduceEq, List.replicate_zero, List.replicate_succ, Int.reduceNatCast', Int32.reduceOfInt, Int32.reduceLT, Int32.reduceLE, Int32.reduceAdd, Int32.reduceSub, Int32.reduceMul, Int32.reduceToInt, Int32.reduceToNatClampNeg]
  repeat' (first | (intro _) | (apply And.intro))
  all_goals (first | exact hT | (simp only [f_wi, *, if_true, if_false, reduceIte, not_true_eq_false, not_false_eq_true] at hT; exact hT) | (simp [f_wi, *] at hT; exact hT) | (simp [f_wi, *] at hT ⊢; exact hT) | (simp_all [f_wi]; done))
def T_PT_isByte : ClassId → ClassId → zT := fun _ _ as h K => match as with
  | [.int n] => K (.inl (some (.int (f_wi n 0 255)))) h
  | _ => False
def E_PT_isByte : ClassId → ClassId → Nat → Nat → Option zEn := fun cI cL kd i => match kd, i with
  | 0, 60 => some (3, none, true, true, 0, 0, T_PT_isWithin cI cL)
  | _, _ => none
theorem E_PT_isByte_k : (∀ cI cL, E_PT_isByte cI cL 0 60 = some (3, none, true, true, 0, 0, T_PT_isWithin cI cL)) := fun _ _ => rfl
set_option maxHeartbeats 4000000 in
set_option maxRecDepth 100000 in
theorem C_PT_isByte {l : Launch} (hl : l.stackTraces = false) : zC l y_PT_isByte (Cond.code y_PT_isByte prog_1_method_20_code 1 (some .boolean) :: wsG) (rmL 2 0 0) zcl true 0 0 T_PT_isByte := by
  refine zC_of (G := zGn) (E := E_PT_isByte) (X := zXn) (SL := zSn) (NW := zNn) (CS := zCn) (ctor := false) hl (by decide) rfl rfl rfl (fun _ _ _ _ _ z => by cases z) (fun z => by cases z) (fun _ _ z => by cases z) (fun _ _ _ _ z => by cases z) (List.mem_cons_of_mem _ ka_i) (fun _ _ _ z => by cases z) (fun _ z => by cases z) (by
    intro p e s m args below meth c D A cI cL hx hb hml hown hts hK hA hEX kd idx en hE
    unfold E_PT_isByte at hE
    split at hE
    · cases hE; exact zRow_S (C_PT_isWithin hl) rfl (Or.inl ⟨_, _, rfl⟩) hx hb hml hown hts hK hA hEX (hin_c kb_PT_isWithin) (List.mem_cons_of_mem _ kn_PT) (List.mem_cons_of_mem _ ks_PT_isWithin) (Or.inl (List.mem_cons_of_mem _ km_PT_60)) (by decide) (by decide) (by decide) rfl rfl
    · cases hE) ?_
  intro cI cL as h K hT
  match as, hT with
  | [.int n], hT =>
  have hT : K (.inl (some (.int (f_wi n 0 255)))) h := hT
  refine ⟨by simp [Value.category], by simp, fun Jd hc => zw_sound (J := fun _ => none) hc (fun _ _ z => by cases z) 10 0 _ _ _ _ _ _ ?_⟩
  simp (maxSteps := 4000000) only [zlc, zif0, zf3, D_PT_isByte, E_PT_isByte_k, T_PT_isWithin, f_wi_0, znr_wi, Classical.not_not, zw_S, zk_iconst, zk_bipush, zk_sipush, zk_ldc, zk_ldc_w, zk_aconst_null, zk_iload_n, zk_iload, zk_aload_n, zk_aload, zk_istore_n, zk_istore, zk_astore_n, zk_astore, zk_iinc, zk_iadd, zk_isub, zk_imul, zk_idiv, zk_iand, zk_ior, zk_ixor, zk_ishl, zk_ishr, zk_iushr, zk_i2l, zk_lcmp, zk_dup, zk_pop, zk_dup_x1, zk_dup2, zk_dup_x2, zk_goto, zk_ifCond, zk_if_icmp, zk_tableswitch, zk_getfield, zk_putfield, zk_iaload, zk_iastore, zk_laload, zk_lastore, zk_arraylength, zk_invokestatic, zk_invokevirtual, zk_invokespecial, zk_new, zk_newarray, zk_ireturn, zk_areturn, zk_return_, zi1_k, zi2_k, zr1_k, zri_k, zrii_k, zril_k, zvr_k, zl2_k, zv1_k, zv2_k, zv3_k, zli_k, zlr_k, zob_k, zai_k, zal_k, zfv_k, zlim_k, zlrm_k, zobm_k, zaim_k, zalm_k, zfvm_k, zgetf_k, zput_k, zcal_k, zrv_n, zrv_s, zswT_n, zswT_c, zgo_k, zcc_eq, zcc_ne, zcc_lt, zcc_ge, zcc_gt, zcc_le, zldj_k, zexc_k, znew_k, zial_k, zct_i, zct_l, zct_r, zct_n, zKK_r, zKK_x, znr_i, znr_0, znr_1, znr_v, znr_a, znr_o, znar_i, znar_r, znar_a, zfit_i, zfit_r, zfit_a, zbc, zlit, eq_self, List.getElem?_cons_zero, List.getElem?_cons_succ, List.set_cons_zero, List.set_cons_succ, List.take_succ_cons, List.take_zero, List.drop_succ_cons, List.drop_zero, List.reverse_cons, List.reverse_nil, List.nil_append, List.cons_append, List.append_nil, List.length_cons, List.length_nil, List.map_cons, List.map_nil, List.sum_cons, List.sum_nil, Option.toList_some, Option.toList_none, Nat.zero_add, Nat.add_zero, Bool.or_false, Bool.false_or, Bool.or_true, Bool.true_or, Bool.not_true, Bool.not_false, ge_iff_le, Fin.isValue, Fin.val_zero, Fin.val_one, Fin.val_two, true_and, and_true, true_implies, false_implies, forall_const, if_true, if_false, ite_true, ite_false, reduceIte, reduceCtorEq, true_or, or_true, and_self, implies_true, not_false_eq_true, not_true_eq_false, Nat.le_refl, Nat.zero_le, and_false, false_and, Nat.reduceAdd, Nat.reduceSub, Nat.reduceLT, Nat.reduceLeDiff, Nat.reduceMul, Nat.reduceEqDiff, Int.reduceAdd, Int.reduceNeg, Int.reduceToNat, Int.reduceLE, Int.reduceNatCast, Int.reduceSub, Int.reduceLT, Int.reduceEq, List.replicate_zero, List.replicate_succ, Int.reduceNatCast', Int32.reduceOfInt, Int32.reduceLT, Int32.reduceLE, Int32.reduceAdd, Int32.reduceSub, Int32.reduceMul, Int32.reduceToInt, Int32.reduceToNatClampNeg]
  exact hT
def T_PT_isDepth : ClassId → ClassId → zT := fun _ _ as h K => match as with
  | [.int n] => K (.inl (some (.int (f_wi n 0 16777215)))) h
  | _ => False
def E_PT_isDepth : ClassId → ClassId → Nat → Nat → Option zEn := fun cI cL kd i => match kd, i with
  | 0, 60 => some (3, none, true, true, 0, 0, T_PT_isWithin cI cL)
  | _, _ => none
theorem E_PT_isDepth_k : (∀ cI cL, E_PT_isDepth cI cL 0 60 = some (3, none, true, true, 0, 0, T_PT_isWithin cI cL)) := fun _ _ => rfl
set_option maxHeartbeats 4000000 in
set_option maxRecDepth 100000 in
theorem C_PT_isDepth {l : Launch} (hl : l.stackTraces = false) : zC l y_PT_isDepth (Cond.code y_PT_isDepth prog_1_method_21_code 1 (some .boolean) :: wsG) (rmL 2 0 0) zcl true 0 0 T_PT_isDepth := by
  refine zC_of (G := zGn) (E := E_PT_isDepth) (X := zXn) (SL := zSn) (NW := zNn) (CS := CS_PT) (ctor := false) hl (by decide) rfl rfl rfl (fun _ _ _ _ _ z => by cases z) (fun z => by cases z) CS_PT_ok (fun _ _ _ _ z => by cases z) (List.mem_cons_of_mem _ ka_i) (fun _ _ _ z => by cases z) (fun _ z => by cases z) (by
    intro p e s m args below meth c D A cI cL hx hb hml hown hts hK hA hEX kd idx en hE
    unfold E_PT_isDepth at hE
    split at hE
    · cases hE; exact zRow_S (C_PT_isWithin hl) rfl (Or.inl ⟨_, _, rfl⟩) hx hb hml hown hts hK hA hEX (hin_c kb_PT_isWithin) (List.mem_cons_of_mem _ kn_PT) (List.mem_cons_of_mem _ ks_PT_isWithin) (Or.inl (List.mem_cons_of_mem _ km_PT_60)) (by decide) (by decide) (by decide) rfl rfl
    · cases hE) ?_
  intro cI cL as h K hT
  match as, hT with
  | [.int n], hT =>
  have hT : K (.inl (some (.int (f_wi n 0 16777215)))) h := hT
  refine ⟨by simp [Value.category], by simp, fun Jd hc => zw_sound (J := fun _ => none) hc (fun _ _ z => by cases z) 10 0 _ _ _ _ _ _ ?_⟩
  simp (maxSteps := 4000000) only [zlc, zif0, zf3, D_PT_isDepth, E_PT_isDepth_k, T_PT_isWithin, f_wi_0, znr_wi, CS_PT_k, Classical.not_not, zw_S, zk_iconst, zk_bipush, zk_sipush, zk_ldc, zk_ldc_w, zk_aconst_null, zk_iload_n, zk_iload, zk_aload_n, zk_aload, zk_istore_n, zk_istore, zk_astore_n, zk_astore, zk_iinc, zk_iadd, zk_isub, zk_imul, zk_idiv, zk_iand, zk_ior, zk_ixor, zk_ishl, zk_ishr, zk_iushr, zk_i2l, zk_lcmp, zk_dup, zk_pop, zk_dup_x1, zk_dup2, zk_dup_x2, zk_goto, zk_ifCond, zk_if_icmp, zk_tableswitch, zk_getfield, zk_putfield, zk_iaload, zk_iastore, zk_laload, zk_lastore, zk_arraylength, zk_invokestatic, zk_invokevirtual, zk_invokespecial, zk_new, zk_newarray, zk_ireturn, zk_areturn, zk_return_, zi1_k, zi2_k, zr1_k, zri_k, zrii_k, zril_k, zvr_k, zl2_k, zv1_k, zv2_k, zv3_k, zli_k, zlr_k, zob_k, zai_k, zal_k, zfv_k, zlim_k, zlrm_k, zobm_k, zaim_k, zalm_k, zfvm_k, zgetf_k, zput_k, zcal_k, zrv_n, zrv_s, zswT_n, zswT_c, zgo_k, zcc_eq, zcc_ne, zcc_lt, zcc_ge, zcc_gt, zcc_le, zldj_k, zexc_k, znew_k, zial_k, zct_i, zct_l, zct_r, zct_n, zKK_r, zKK_x, znr_i, znr_0, znr_1, znr_v, znr_a, znr_o, znar_i, znar_r, znar_a, zfit_i, zfit_r, zfit_a, zbc, zlit, eq_self, List.getElem?_cons_zero, List.getElem?_cons_succ, List.set_cons_zero, List.set_cons_succ, List.take_succ_cons, List.take_zero, List.drop_succ_cons, List.drop_zero, List.reverse_cons, List.reverse_nil, List.nil_append, List.cons_append, List.append_nil, List.length_cons, List.length_nil, List.map_cons, List.map_nil, List.sum_cons, List.sum_nil, Option.toList_some, Option.toList_none, Nat.zero_add, Nat.add_zero, Bool.or_false, Bool.false_or, Bool.or_true, Bool.true_or, Bool.not_true, Bool.not_false, ge_iff_le, Fin.isValue, Fin.val_zero, Fin.val_one, Fin.val_two, true_and, and_true, true_implies, false_implies, forall_const, if_true, if_false, ite_true, ite_false, reduceIte, reduceCtorEq, true_or, or_true, and_self, implies_true, not_false_eq_true, not_true_eq_false, Nat.le_refl, Nat.zero_le, and_false, false_and, Nat.reduceAdd, Nat.reduceSub, Nat.reduceLT, Nat.reduceLeDiff, Nat.reduceMul, Nat.reduceEqDiff, Int.reduceAdd, Int.reduceNeg, Int.reduceToNat, Int.reduceLE, Int.reduceNatCast, Int.reduceSub, Int.reduceLT, Int.reduceEq, List.replicate_zero, List.replicate_succ, Int.reduceNatCast', Int32.reduceOfInt, Int32.reduceLT, Int32.reduceLE, Int32.reduceAdd, Int32.reduceSub, Int32.reduceMul, Int32.reduceToInt, Int32.reduceToNatClampNeg]
  exact hT
def T_PT_isSide : ClassId → ClassId → zT := fun _ _ as h K => match as with
  | [.int n] => K (.inl (some (.int (f_wi n 0 1)))) h
  | _ => False
def E_PT_isSide : ClassId → ClassId → Nat → Nat → Option zEn := fun cI cL kd i => match kd, i with
  | 0, 60 => some (3, none, true, true, 0, 0, T_PT_isWithin cI cL)
  | _, _ => none
theorem E_PT_isSide_k : (∀ cI cL, E_PT_isSide cI cL 0 60 = some (3, none, true, true, 0, 0, T_PT_isWithin cI cL)) := fun _ _ => rfl
set_option maxHeartbeats 4000000 in
set_option maxRecDepth 100000 in
theorem C_PT_isSide {l : Launch} (hl : l.stackTraces = false) : zC l y_PT_isSide (Cond.code y_PT_isSide prog_1_method_22_code 1 (some .boolean) :: wsG) (rmL 2 0 0) zcl true 0 0 T_PT_isSide := by
  refine zC_of (G := zGn) (E := E_PT_isSide) (X := zXn) (SL := zSn) (NW := zNn) (CS := zCn) (ctor := false) hl (by decide) rfl rfl rfl (fun _ _ _ _ _ z => by cases z) (fun z => by cases z) (fun _ _ z => by cases z) (fun _ _ _ _ z => by cases z) (List.mem_cons_of_mem _ ka_i) (fun _ _ _ z => by cases z) (fun _ z => by cases z) (by
    intro p e s m args below meth c D A cI cL hx hb hml hown hts hK hA hEX kd idx en hE
    unfold E_PT_isSide at hE
    split at hE
    · cases hE; exact zRow_S (C_PT_isWithin hl) rfl (Or.inl ⟨_, _, rfl⟩) hx hb hml hown hts hK hA hEX (hin_c kb_PT_isWithin) (List.mem_cons_of_mem _ kn_PT) (List.mem_cons_of_mem _ ks_PT_isWithin) (Or.inl (List.mem_cons_of_mem _ km_PT_60)) (by decide) (by decide) (by decide) rfl rfl
    · cases hE) ?_
  intro cI cL as h K hT
  match as, hT with
  | [.int n], hT =>
  have hT : K (.inl (some (.int (f_wi n 0 1)))) h := hT
  refine ⟨by simp [Value.category], by simp, fun Jd hc => zw_sound (J := fun _ => none) hc (fun _ _ z => by cases z) 10 0 _ _ _ _ _ _ ?_⟩
  simp (maxSteps := 4000000) only [zlc, zif0, zf3, D_PT_isSide, E_PT_isSide_k, T_PT_isWithin, f_wi_0, znr_wi, Classical.not_not, zw_S, zk_iconst, zk_bipush, zk_sipush, zk_ldc, zk_ldc_w, zk_aconst_null, zk_iload_n, zk_iload, zk_aload_n, zk_aload, zk_istore_n, zk_istore, zk_astore_n, zk_astore, zk_iinc, zk_iadd, zk_isub, zk_imul, zk_idiv, zk_iand, zk_ior, zk_ixor, zk_ishl, zk_ishr, zk_iushr, zk_i2l, zk_lcmp, zk_dup, zk_pop, zk_dup_x1, zk_dup2, zk_dup_x2, zk_goto, zk_ifCond, zk_if_icmp, zk_tableswitch, zk_getfield, zk_putfield, zk_iaload, zk_iastore, zk_laload, zk_lastore, zk_arraylength, zk_invokestatic, zk_invokevirtual, zk_invokespecial, zk_new, zk_newarray, zk_ireturn, zk_areturn, zk_return_, zi1_k, zi2_k, zr1_k, zri_k, zrii_k, zril_k, zvr_k, zl2_k, zv1_k, zv2_k, zv3_k, zli_k, zlr_k, zob_k, zai_k, zal_k, zfv_k, zlim_k, zlrm_k, zobm_k, zaim_k, zalm_k, zfvm_k, zgetf_k, zput_k, zcal_k, zrv_n, zrv_s, zswT_n, zswT_c, zgo_k, zcc_eq, zcc_ne, zcc_lt, zcc_ge, zcc_gt, zcc_le, zldj_k, zexc_k, znew_k, zial_k, zct_i, zct_l, zct_r, zct_n, zKK_r, zKK_x, znr_i, znr_0, znr_1, znr_v, znr_a, znr_o, znar_i, znar_r, znar_a, zfit_i, zfit_r, zfit_a, zbc, zlit, eq_self, List.getElem?_cons_zero, List.getElem?_cons_succ, List.set_cons_zero, List.set_cons_succ, List.take_succ_cons, List.take_zero, List.drop_succ_cons, List.drop_zero, List.reverse_cons, List.reverse_nil, List.nil_append, List.cons_append, List.append_nil, List.length_cons, List.length_nil, List.map_cons, List.map_nil, List.sum_cons, List.sum_nil, Option.toList_some, Option.toList_none, Nat.zero_add, Nat.add_zero, Bool.or_false, Bool.false_or, Bool.or_true, Bool.true_or, Bool.not_true, Bool.not_false, ge_iff_le, Fin.isValue, Fin.val_zero, Fin.val_one, Fin.val_two, true_and, and_true, true_implies, false_implies, forall_const, if_true, if_false, ite_true, ite_false, reduceIte, reduceCtorEq, true_or, or_true, and_self, implies_true, not_false_eq_true, not_true_eq_false, Nat.le_refl, Nat.zero_le, and_false, false_and, Nat.reduceAdd, Nat.reduceSub, Nat.reduceLT, Nat.reduceLeDiff, Nat.reduceMul, Nat.reduceEqDiff, Int.reduceAdd, Int.reduceNeg, Int.reduceToNat, Int.reduceLE, Int.reduceNatCast, Int.reduceSub, Int.reduceLT, Int.reduceEq, List.replicate_zero, List.replicate_succ, Int.reduceNatCast', Int32.reduceOfInt, Int32.reduceLT, Int32.reduceLE, Int32.reduceAdd, Int32.reduceSub, Int32.reduceMul, Int32.reduceToInt, Int32.reduceToNatClampNeg]
  exact hT
def T_PT_isDeed : ClassId → ClassId → zT := fun _ _ as h K => match as with
  | [.int n] => K (.inl (some (.int (f_wi n 0 7)))) h
  | _ => False
def E_PT_isDeed : ClassId → ClassId → Nat → Nat → Option zEn := fun cI cL kd i => match kd, i with
  | 0, 60 => some (3, none, true, true, 0, 0, T_PT_isWithin cI cL)
  | _, _ => none
theorem E_PT_isDeed_k : (∀ cI cL, E_PT_isDeed cI cL 0 60 = some (3, none, true, true, 0, 0, T_PT_isWithin cI cL)) := fun _ _ => rfl
set_option maxHeartbeats 4000000 in
set_option maxRecDepth 100000 in
theorem C_PT_isDeed {l : Launch} (hl : l.stackTraces = false) : zC l y_PT_isDeed (Cond.code y_PT_isDeed prog_1_method_23_code 1 (some .boolean) :: wsG) (rmL 2 0 0) zcl true 0 0 T_PT_isDeed := by
  refine zC_of (G := zGn) (E := E_PT_isDeed) (X := zXn) (SL := zSn) (NW := zNn) (CS := zCn) (ctor := false) hl (by decide) rfl rfl rfl (fun _ _ _ _ _ z => by cases z) (fun z => by cases z) (fun _ _ z => by cases z) (fun _ _ _ _ z => by cases z) (List.mem_cons_of_mem _ ka_i) (fun _ _ _ z => by cases z) (fun _ z => by cases z) (by
    intro p e s m args below meth c D A cI cL hx hb hml hown hts hK hA hEX kd idx en hE
    unfold E_PT_isDeed at hE
    split at hE
    · cases hE; exact zRow_S (C_PT_isWithin hl) rfl (Or.inl ⟨_, _, rfl⟩) hx hb hml hown hts hK hA hEX (hin_c kb_PT_isWithin) (List.mem_cons_of_mem _ kn_PT) (List.mem_cons_of_mem _ ks_PT_isWithin) (Or.inl (List.mem_cons_of_mem _ km_PT_60)) (by decide) (by decide) (by decide) rfl rfl
    · cases hE) ?_
  intro cI cL as h K hT
  match as, hT with
  | [.int n], hT =>
  have hT : K (.inl (some (.int (f_wi n 0 7)))) h := hT
  refine ⟨by simp [Value.category], by simp, fun Jd hc => zw_sound (J := fun _ => none) hc (fun _ _ z => by cases z) 10 0 _ _ _ _ _ _ ?_⟩
  simp (maxSteps := 4000000) only [zlc, zif0, zf3, D_PT_isDeed, E_PT_isDeed_k, T_PT_isWithin, f_wi_0, znr_wi, Classical.not_not, zw_S, zk_iconst, zk_bipush, zk_sipush, zk_ldc, zk_ldc_w, zk_aconst_null, zk_iload_n, zk_iload, zk_aload_n, zk_aload, zk_istore_n, zk_istore, zk_astore_n, zk_astore, zk_iinc, zk_iadd, zk_isub, zk_imul, zk_idiv, zk_iand, zk_ior, zk_ixor, zk_ishl, zk_ishr, zk_iushr, zk_i2l, zk_lcmp, zk_dup, zk_pop, zk_dup_x1, zk_dup2, zk_dup_x2, zk_goto, zk_ifCond, zk_if_icmp, zk_tableswitch, zk_getfield, zk_putfield, zk_iaload, zk_iastore, zk_laload, zk_lastore, zk_arraylength, zk_invokestatic, zk_invokevirtual, zk_invokespecial, zk_new, zk_newarray, zk_ireturn, zk_areturn, zk_return_, zi1_k, zi2_k, zr1_k, zri_k, zrii_k, zril_k, zvr_k, zl2_k, zv1_k, zv2_k, zv3_k, zli_k, zlr_k, zob_k, zai_k, zal_k, zfv_k, zlim_k, zlrm_k, zobm_k, zaim_k, zalm_k, zfvm_k, zgetf_k, zput_k, zcal_k, zrv_n, zrv_s, zswT_n, zswT_c, zgo_k, zcc_eq, zcc_ne, zcc_lt, zcc_ge, zcc_gt, zcc_le, zldj_k, zexc_k, znew_k, zial_k, zct_i, zct_l, zct_r, zct_n, zKK_r, zKK_x, znr_i, znr_0, znr_1, znr_v, znr_a, znr_o, znar_i, znar_r, znar_a, zfit_i, zfit_r, zfit_a, zbc, zlit, eq_self, List.getElem?_cons_zero, List.getElem?_cons_succ, List.set_cons_zero, List.set_cons_succ, List.take_succ_cons, List.take_zero, List.drop_succ_cons, List.drop_zero, List.reverse_cons, List.reverse_nil, List.nil_append, List.cons_append, List.append_nil, List.length_cons, List.length_nil, List.map_cons, List.map_nil, List.sum_cons, List.sum_nil, Option.toList_some, Option.toList_none, Nat.zero_add, Nat.add_zero, Bool.or_false, Bool.false_or, Bool.or_true, Bool.true_or, Bool.not_true, Bool.not_false, ge_iff_le, Fin.isValue, Fin.val_zero, Fin.val_one, Fin.val_two, true_and, and_true, true_implies, false_implies, forall_const, if_true, if_false, ite_true, ite_false, reduceIte, reduceCtorEq, true_or, or_true, and_self, implies_true, not_false_eq_true, not_true_eq_false, Nat.le_refl, Nat.zero_le, and_false, false_and, Nat.reduceAdd, Nat.reduceSub, Nat.reduceLT, Nat.reduceLeDiff, Nat.reduceMul, Nat.reduceEqDiff, Int.reduceAdd, Int.reduceNeg, Int.reduceToNat, Int.reduceLE, Int.reduceNatCast, Int.reduceSub, Int.reduceLT, Int.reduceEq, List.replicate_zero, List.replicate_succ, Int.reduceNatCast', Int32.reduceOfInt, Int32.reduceLT, Int32.reduceLE, Int32.reduceAdd, Int32.reduceSub, Int32.reduceMul, Int32.reduceToInt, Int32.reduceToNatClampNeg]
  exact hT
def T_PT_isFactor : ClassId → ClassId → zT := fun _ _ as h K => match as with
  | [.int n] => K (.inl (some (.int (f_wi n 0 14)))) h
  | _ => False
def E_PT_isFactor : ClassId → ClassId → Nat → Nat → Option zEn := fun cI cL kd i => match kd, i with
  | 0, 60 => some (3, none, true, true, 0, 0, T_PT_isWithin cI cL)
  | _, _ => none
theorem E_PT_isFactor_k : (∀ cI cL, E_PT_isFactor cI cL 0 60 = some (3, none, true, true, 0, 0, T_PT_isWithin cI cL)) := fun _ _ => rfl
set_option maxHeartbeats 4000000 in
set_option maxRecDepth 100000 in
theorem C_PT_isFactor {l : Launch} (hl : l.stackTraces = false) : zC l y_PT_isFactor (Cond.code y_PT_isFactor prog_1_method_24_code 1 (some .boolean) :: wsG) (rmL 2 0 0) zcl true 0 0 T_PT_isFactor := by
  refine zC_of (G := zGn) (E := E_PT_isFactor) (X := zXn) (SL := zSn) (NW := zNn) (CS := zCn) (ctor := false) hl (by decide) rfl rfl rfl (fun _ _ _ _ _ z => by cases z) (fun z => by cases z) (fun _ _ z => by cases z) (fun _ _ _ _ z => by cases z) (List.mem_cons_of_mem _ ka_i) (fun _ _ _ z => by cases z) (fun _ z => by cases z) (by
    intro p e s m args below meth c D A cI cL hx hb hml hown hts hK hA hEX kd idx en hE
    unfold E_PT_isFactor at hE
    split at hE
    · cases hE; exact zRow_S (C_PT_isWithin hl) rfl (Or.inl ⟨_, _, rfl⟩) hx hb hml hown hts hK hA hEX (hin_c kb_PT_isWithin) (List.mem_cons_of_mem _ kn_PT) (List.mem_cons_of_mem _ ks_PT_isWithin) (Or.inl (List.mem_cons_of_mem _ km_PT_60)) (by decide) (by decide) (by decide) rfl rfl
    · cases hE) ?_
  intro cI cL as h K hT
  match as, hT with
  | [.int n], hT =>
  have hT : K (.inl (some (.int (f_wi n 0 14)))) h := hT
  refine ⟨by simp [Value.category], by simp, fun Jd hc => zw_sound (J := fun _ => none) hc (fun _ _ z => by cases z) 10 0 _ _ _ _ _ _ ?_⟩
  simp (maxSteps := 4000000) only [zlc, zif0, zf3, D_PT_isFactor, E_PT_isFactor_k, T_PT_isWithin, f_wi_0, znr_wi, Classical.not_not, zw_S, zk_iconst, zk_bipush, zk_sipush, zk_ldc, zk_ldc_w, zk_aconst_null, zk_iload_n, zk_iload, zk_aload_n, zk_aload, zk_istore_n, zk_istore, zk_astore_n, zk_astore, zk_iinc, zk_iadd, zk_isub, zk_imul, zk_idiv, zk_iand, zk_ior, zk_ixor, zk_ishl, zk_ishr, zk_iushr, zk_i2l, zk_lcmp, zk_dup, zk_pop, zk_dup_x1, zk_dup2, zk_dup_x2, zk_goto, zk_ifCond, zk_if_icmp, zk_tableswitch, zk_getfield, zk_putfield, zk_iaload, zk_iastore, zk_laload, zk_lastore, zk_arraylength, zk_invokestatic, zk_invokevirtual, zk_invokespecial, zk_new, zk_newarray, zk_ireturn, zk_areturn, zk_return_, zi1_k, zi2_k, zr1_k, zri_k, zrii_k, zril_k, zvr_k, zl2_k, zv1_k, zv2_k, zv3_k, zli_k, zlr_k, zob_k, zai_k, zal_k, zfv_k, zlim_k, zlrm_k, zobm_k, zaim_k, zalm_k, zfvm_k, zgetf_k, zput_k, zcal_k, zrv_n, zrv_s, zswT_n, zswT_c, zgo_k, zcc_eq, zcc_ne, zcc_lt, zcc_ge, zcc_gt, zcc_le, zldj_k, zexc_k, znew_k, zial_k, zct_i, zct_l, zct_r, zct_n, zKK_r, zKK_x, znr_i, znr_0, znr_1, znr_v, znr_a, znr_o, znar_i, znar_r, znar_a, zfit_i, zfit_r, zfit_a, zbc, zlit, eq_self, List.getElem?_cons_zero, List.getElem?_cons_succ, List.set_cons_zero, List.set_cons_succ, List.take_succ_cons, List.take_zero, List.drop_succ_cons, List.drop_zero, List.reverse_cons, List.reverse_nil, List.nil_append, List.cons_append, List.append_nil, List.length_cons, List.length_nil, List.map_cons, List.map_nil, List.sum_cons, List.sum_nil, Option.toList_some, Option.toList_none, Nat.zero_add, Nat.add_zero, Bool.or_false, Bool.false_or, Bool.or_true, Bool.true_or, Bool.not_true, Bool.not_false, ge_iff_le, Fin.isValue, Fin.val_zero, Fin.val_one, Fin.val_two, true_and, and_true, true_implies, false_implies, forall_const, if_true, if_false, ite_true, ite_false, reduceIte, reduceCtorEq, true_or, or_true, and_self, implies_true, not_false_eq_true, not_true_eq_false, Nat.le_refl, Nat.zero_le, and_false, false_and, Nat.reduceAdd, Nat.reduceSub, Nat.reduceLT, Nat.reduceLeDiff, Nat.reduceMul, Nat.reduceEqDiff, Int.reduceAdd, Int.reduceNeg, Int.reduceToNat, Int.reduceLE, Int.reduceNatCast, Int.reduceSub, Int.reduceLT, Int.reduceEq, List.replicate_zero, List.replicate_succ, Int.reduceNatCast', Int32.reduceOfInt, Int32.reduceLT, Int32.reduceLE, Int32.reduceAdd, Int32.reduceSub, Int32.reduceMul, Int32.reduceToInt, Int32.reduceToNatClampNeg]
  exact hT
def f_cmp (t a b : Int32) : Int32 := if t = 0 then 0 else if t = 1 then (if b ≤ a then 0 else 1) else if t = 2 then (if a = b then 1 else 0) else if t = 3 then (if b < a then 0 else 1) else if t = 4 then (if a ≤ b then 0 else 1) else if t = 5 then (if a = b then 0 else 1) else if t = 6 then (if a < b then 0 else 1) else 1
def T_PT_compares : ClassId → ClassId → zT := fun _ _ as h K => match as with
  | [.int t, .int a, .int b] => K (.inl (some (.int (f_cmp t a b)))) h
  | _ => False
set_option maxHeartbeats 4000000 in
set_option maxRecDepth 100000 in
theorem C_PT_compares {l : Launch} (hl : l.stackTraces = false) : zC l y_PT_compares (Cond.code y_PT_compares prog_1_method_25_code 3 (some .boolean) :: wsG) (rmL 1 0 0) zcl true 0 0 T_PT_compares := by
  refine zC_of (G := zGn) (E := zEn0) (X := zXn) (SL := zSn) (NW := zNn) (CS := zCn) (ctor := false) hl (by decide) rfl rfl rfl (fun _ _ _ _ _ z => by cases z) (fun z => by cases z) (fun _ _ z => by cases z) (fun _ _ _ _ z => by cases z) (List.mem_cons_of_mem _ ka_i) (fun _ _ _ z => by cases z) (fun _ z => by cases z) (fun _ _ _ _ _ _ _ _ _ _ _ _ _ _ _ _ _ _ _ _ _ _ _ z => by cases z) ?_
  intro cI cL as h K hT
  match as, hT with
  | [.int t, .int a, .int b], hT =>
  have hT : K (.inl (some (.int (f_cmp t a b)))) h := hT
  refine ⟨by simp [Value.category], by simp, fun Jd hc => zw_sound (J := fun _ => none) hc (fun _ _ z => by cases z) 53 0 _ _ _ _ _ _ ?_⟩
  simp (maxSteps := 4000000) only [zlc, zif0, zf3, D_PT_compares, zti, Classical.not_not, zw_S, zk_iconst, zk_bipush, zk_sipush, zk_ldc, zk_ldc_w, zk_aconst_null, zk_iload_n, zk_iload, zk_aload_n, zk_aload, zk_istore_n, zk_istore, zk_astore_n, zk_astore, zk_iinc, zk_iadd, zk_isub, zk_imul, zk_idiv, zk_iand, zk_ior, zk_ixor, zk_ishl, zk_ishr, zk_iushr, zk_i2l, zk_lcmp, zk_dup, zk_pop, zk_dup_x1, zk_dup2, zk_dup_x2, zk_goto, zk_ifCond, zk_if_icmp, zk_tableswitch, zk_getfield, zk_putfield, zk_iaload, zk_iastore, zk_laload, zk_lastore, zk_arraylength, zk_invokestatic, zk_invokevirtual, zk_invokespecial, zk_new, zk_newarray, zk_ireturn, zk_areturn, zk_return_, zi1_k, zi2_k, zr1_k, zri_k, zrii_k, zril_k, zvr_k, zl2_k, zv1_k, zv2_k, zv3_k, zli_k, zlr_k, zob_k, zai_k, zal_k, zfv_k, zlim_k, zlrm_k, zobm_k, zaim_k, zalm_k, zfvm_k, zgetf_k, zput_k, zcal_k, zrv_n, zrv_s, zswT_n, zswT_c, zgo_k, zcc_eq, zcc_ne, zcc_lt, zcc_ge, zcc_gt, zcc_le, zldj_k, zexc_k, znew_k, zial_k, zct_i, zct_l, zct_r, zct_n, zKK_r, zKK_x, znr_i, znr_0, znr_1, znr_v, znr_a, znr_o, znar_i, znar_r, znar_a, zfit_i, zfit_r, zfit_a, zbc, zlit, eq_self, List.getElem?_cons_zero, List.getElem?_cons_succ, List.set_cons_zero, List.set_cons_succ, List.take_succ_cons, List.take_zero, List.drop_succ_cons, List.drop_zero, List.reverse_cons, List.reverse_nil, List.nil_append, List.cons_append, List.append_nil, List.length_cons, List.length_nil, List.map_cons, List.map_nil, List.sum_cons, List.sum_nil, Option.toList_some, Option.toList_none, Nat.zero_add, Nat.add_zero, Bool.or_false, Bool.false_or, Bool.or_true, Bool.true_or, Bool.not_true, Bool.not_false, ge_iff_le, Fin.isValue, Fin.val_zero, Fin.val_one, Fin.val_two, true_and, and_true, true_implies, false_implies, forall_const, if_true, if_false, ite_true, ite_false, reduceIte, reduceCtorEq, true_or, or_true, and_self, implies_true, not_false_eq_true, not_true_eq_false, Nat.le_refl, Nat.zero_le, and_false, false_and, Nat.reduceAdd, Nat.reduceSub, Nat.reduceLT, Nat.reduceLeDiff, Nat.reduceMul, Nat.reduceEqDiff, Int.reduceAdd, Int.reduceNeg, Int.reduceToNat, Int.reduceLE, Int.reduceNatCast, Int.reduceSub, Int.reduceLT, Int.reduceEq, List.replicate_zero, List.replicate_succ, Int.reduceNatCast', Int32.reduceOfInt, Int32.reduceLT, Int32.reduceLE, Int32.reduceAdd, Int32.reduceSub, Int32.reduceMul, Int32.reduceToInt, Int32.reduceToNatClampNeg]
  repeat' (first | (intro _) | (apply And.intro))
  all_goals (first | exact hT | (simp only [f_cmp, *, if_true, if_false, reduceIte, not_true_eq_false, not_false_eq_true] at hT; exact hT) | (simp [f_cmp, *] at hT; exact hT) | (simp [f_cmp, *] at hT ⊢; exact hT) | (simp_all [f_cmp]; done))
def f_mrg (a b c : Int32) : Int32 := (a &&& (c ^^^ (-1))) ||| (b &&& c)
def T_PT_merged : ClassId → ClassId → zT := fun _ _ as h K => match as with
  | [.int a, .int b, .int c] => K (.inl (some (.int (f_mrg a b c)))) h
  | _ => False
set_option maxHeartbeats 4000000 in
set_option maxRecDepth 100000 in
theorem C_PT_merged {l : Launch} (hl : l.stackTraces = false) : zC l y_PT_merged (Cond.code y_PT_merged prog_1_method_26_code 3 (some .int) :: wsG) (rmL 1 0 0) zcl true 0 0 T_PT_merged := by
  refine zC_of (G := zGn) (E := zEn0) (X := zXn) (SL := zSn) (NW := zNn) (CS := zCn) (ctor := false) hl (by decide) rfl rfl rfl (fun _ _ _ _ _ z => by cases z) (fun z => by cases z) (fun _ _ z => by cases z) (fun _ _ _ _ z => by cases z) (List.mem_cons_of_mem _ ka_i) (fun _ _ _ z => by cases z) (fun _ z => by cases z) (fun _ _ _ _ _ _ _ _ _ _ _ _ _ _ _ _ _ _ _ _ _ _ _ z => by cases z) ?_
  intro cI cL as h K hT
  match as, hT with
  | [.int a, .int b, .int c], hT =>
  have hT : K (.inl (some (.int (f_mrg a b c)))) h := hT
  refine ⟨by simp [Value.category], by simp, fun Jd hc => zw_sound (J := fun _ => none) hc (fun _ _ z => by cases z) 15 0 _ _ _ _ _ _ ?_⟩
  simp (maxSteps := 4000000) only [zlc, zif0, zf3, D_PT_merged, Classical.not_not, zw_S, zk_iconst, zk_bipush, zk_sipush, zk_ldc, zk_ldc_w, zk_aconst_null, zk_iload_n, zk_iload, zk_aload_n, zk_aload, zk_istore_n, zk_istore, zk_astore_n, zk_astore, zk_iinc, zk_iadd, zk_isub, zk_imul, zk_idiv, zk_iand, zk_ior, zk_ixor, zk_ishl, zk_ishr, zk_iushr, zk_i2l, zk_lcmp, zk_dup, zk_pop, zk_dup_x1, zk_dup2, zk_dup_x2, zk_goto, zk_ifCond, zk_if_icmp, zk_tableswitch, zk_getfield, zk_putfield, zk_iaload, zk_iastore, zk_laload, zk_lastore, zk_arraylength, zk_invokestatic, zk_invokevirtual, zk_invokespecial, zk_new, zk_newarray, zk_ireturn, zk_areturn, zk_return_, zi1_k, zi2_k, zr1_k, zri_k, zrii_k, zril_k, zvr_k, zl2_k, zv1_k, zv2_k, zv3_k, zli_k, zlr_k, zob_k, zai_k, zal_k, zfv_k, zlim_k, zlrm_k, zobm_k, zaim_k, zalm_k, zfvm_k, zgetf_k, zput_k, zcal_k, zrv_n, zrv_s, zswT_n, zswT_c, zgo_k, zcc_eq, zcc_ne, zcc_lt, zcc_ge, zcc_gt, zcc_le, zldj_k, zexc_k, znew_k, zial_k, zct_i, zct_l, zct_r, zct_n, zKK_r, zKK_x, znr_i, znr_0, znr_1, znr_v, znr_a, znr_o, znar_i, znar_r, znar_a, zfit_i, zfit_r, zfit_a, zbc, zlit, eq_self, List.getElem?_cons_zero, List.getElem?_cons_succ, List.set_cons_zero, List.set_cons_succ, List.take_succ_cons, List.take_zero, List.drop_succ_cons, List.drop_zero, List.reverse_cons, List.reverse_nil, List.nil_append, List.cons_append, List.append_nil, List.length_cons, List.length_nil, List.map_cons, List.map_nil, List.sum_cons, List.sum_nil, Option.toList_some, Option.toList_none, Nat.zero_add, Nat.add_zero, Bool.or_false, Bool.false_or, Bool.or_true, Bool.true_or, Bool.not_true, Bool.not_false, ge_iff_le, Fin.isValue, Fin.val_zero, Fin.val_one, Fin.val_two, true_and, and_true, true_implies, false_implies, forall_const, if_true, if_false, ite_true, ite_false, reduceIte, reduceCtorEq, true_or, or_true, and_self, implies_true, not_false_eq_true, not_true_eq_false, Nat.le_refl, Nat.zero_le, and_false, false_and, Nat.reduceAdd, Nat.reduceSub, Nat.reduceLT, Nat.reduceLeDiff, Nat.reduceMul, Nat.reduceEqDiff, Int.reduceAdd, Int.reduceNeg, Int.reduceToNat, Int.reduceLE, Int.reduceNatCast, Int.reduceSub, Int.reduceLT, Int.reduceEq, List.replicate_zero, List.replicate_succ, Int.reduceNatCast', Int32.reduceOfInt, Int32.reduceLT, Int32.reduceLE, Int32.reduceAdd, Int32.reduceSub, Int32.reduceMul, Int32.reduceToInt, Int32.reduceToNatClampNeg]
  exact hT
def f_ch (a b : Int32) : Int32 := (a.toUInt32 >>> (b.toUInt32 &&& Int32.toUInt32 31)).toInt32 &&& 255
def T_CO_channel : ClassId → ClassId → zT := fun _ _ as h K => match as with
  | [.int a, .int b] => K (.inl (some (.int (f_ch a b)))) h
  | _ => False
set_option maxHeartbeats 4000000 in
set_option maxRecDepth 100000 in
theorem C_CO_channel {l : Launch} (hl : l.stackTraces = false) : zC l y_CO_channel (Cond.code y_CO_channel prog_3_method_4_code 2 (some .int) :: wsG) (rmL 1 0 0) zcl true 0 0 T_CO_channel := by
  refine zC_of (G := zGn) (E := zEn0) (X := zXn) (SL := zSn) (NW := zNn) (CS := zCn) (ctor := false) hl (by decide) rfl rfl rfl (fun _ _ _ _ _ z => by cases z) (fun z => by cases z) (fun _ _ z => by cases z) (fun _ _ _ _ z => by cases z) (List.mem_cons_of_mem _ ka_i) (fun _ _ _ z => by cases z) (fun _ z => by cases z) (fun _ _ _ _ _ _ _ _ _ _ _ _ _ _ _ _ _ _ _ _ _ _ _ z => by cases z) ?_
  intro cI cL as h K hT
  match as, hT with
  | [.int a, .int b], hT =>
  have hT : K (.inl (some (.int (f_ch a b)))) h := hT
  refine ⟨by simp [Value.category], by simp, fun Jd hc => zw_sound (J := fun _ => none) hc (fun _ _ z => by cases z) 11 0 _ _ _ _ _ _ ?_⟩
  simp (maxSteps := 4000000) only [zlc, zif0, zf3, D_CO_channel, Classical.not_not, zw_S, zk_iconst, zk_bipush, zk_sipush, zk_ldc, zk_ldc_w, zk_aconst_null, zk_iload_n, zk_iload, zk_aload_n, zk_aload, zk_istore_n, zk_istore, zk_astore_n, zk_astore, zk_iinc, zk_iadd, zk_isub, zk_imul, zk_idiv, zk_iand, zk_ior, zk_ixor, zk_ishl, zk_ishr, zk_iushr, zk_i2l, zk_lcmp, zk_dup, zk_pop, zk_dup_x1, zk_dup2, zk_dup_x2, zk_goto, zk_ifCond, zk_if_icmp, zk_tableswitch, zk_getfield, zk_putfield, zk_iaload, zk_iastore, zk_laload, zk_lastore, zk_arraylength, zk_invokestatic, zk_invokevirtual, zk_invokespecial, zk_new, zk_newarray, zk_ireturn, zk_areturn, zk_return_, zi1_k, zi2_k, zr1_k, zri_k, zrii_k, zril_k, zvr_k, zl2_k, zv1_k, zv2_k, zv3_k, zli_k, zlr_k, zob_k, zai_k, zal_k, zfv_k, zlim_k, zlrm_k, zobm_k, zaim_k, zalm_k, zfvm_k, zgetf_k, zput_k, zcal_k, zrv_n, zrv_s, zswT_n, zswT_c, zgo_k, zcc_eq, zcc_ne, zcc_lt, zcc_ge, zcc_gt, zcc_le, zldj_k, zexc_k, znew_k, zial_k, zct_i, zct_l, zct_r, zct_n, zKK_r, zKK_x, znr_i, znr_0, znr_1, znr_v, znr_a, znr_o, znar_i, znar_r, znar_a, zfit_i, zfit_r, zfit_a, zbc, zlit, eq_self, List.getElem?_cons_zero, List.getElem?_cons_succ, List.set_cons_zero, List.set_cons_succ, List.take_succ_cons, List.take_zero, List.drop_succ_cons, List.drop_zero, List.reverse_cons, List.reverse_nil, List.nil_append, List.cons_append, List.append_nil, List.length_cons, List.length_nil, List.map_cons, List.map_nil, List.sum_cons, List.sum_nil, Option.toList_some, Option.toList_none, Nat.zero_add, Nat.add_zero, Bool.or_false, Bool.false_or, Bool.or_true, Bool.true_or, Bool.not_true, Bool.not_false, ge_iff_le, Fin.isValue, Fin.val_zero, Fin.val_one, Fin.val_two, true_and, and_true, true_implies, false_implies, forall_const, if_true, if_false, ite_true, ite_false, reduceIte, reduceCtorEq, true_or, or_true, and_self, implies_true, not_false_eq_true, not_true_eq_false, Nat.le_refl, Nat.zero_le, and_false, false_and, Nat.reduceAdd, Nat.reduceSub, Nat.reduceLT, Nat.reduceLeDiff, Nat.reduceMul, Nat.reduceEqDiff, Int.reduceAdd, Int.reduceNeg, Int.reduceToNat, Int.reduceLE, Int.reduceNatCast, Int.reduceSub, Int.reduceLT, Int.reduceEq, List.replicate_zero, List.replicate_succ, Int.reduceNatCast', Int32.reduceOfInt, Int32.reduceLT, Int32.reduceLE, Int32.reduceAdd, Int32.reduceSub, Int32.reduceMul, Int32.reduceToInt, Int32.reduceToNatClampNeg]
  exact hT
def f_pk (r g b a : Int32) : Int32 := (((a <<< ((24 : Int32) &&& 31)) ||| (b <<< ((16 : Int32) &&& 31))) ||| (g <<< ((8 : Int32) &&& 31))) ||| r
def T_CO_packed : ClassId → ClassId → zT := fun _ _ as h K => match as with
  | [.int r, .int g, .int b, .int a] => K (.inl (some (.int (f_pk r g b a)))) h
  | _ => False
set_option maxHeartbeats 4000000 in
set_option maxRecDepth 100000 in
theorem C_CO_packed {l : Launch} (hl : l.stackTraces = false) : zC l y_CO_packed (Cond.code y_CO_packed prog_3_method_2_code 4 (some .int) :: wsG) (rmL 1 0 0) zcl true 0 0 T_CO_packed := by
  refine zC_of (G := zGn) (E := zEn0) (X := zXn) (SL := zSn) (NW := zNn) (CS := zCn) (ctor := false) hl (by decide) rfl rfl rfl (fun _ _ _ _ _ z => by cases z) (fun z => by cases z) (fun _ _ z => by cases z) (fun _ _ _ _ z => by cases z) (List.mem_cons_of_mem _ ka_i) (fun _ _ _ z => by cases z) (fun _ z => by cases z) (fun _ _ _ _ _ _ _ _ _ _ _ _ _ _ _ _ _ _ _ _ _ _ _ z => by cases z) ?_
  intro cI cL as h K hT
  match as, hT with
  | [.int r, .int g, .int b, .int a], hT =>
  have hT : K (.inl (some (.int (f_pk r g b a)))) h := hT
  refine ⟨by simp [Value.category], by simp, fun Jd hc => zw_sound (J := fun _ => none) hc (fun _ _ z => by cases z) 19 0 _ _ _ _ _ _ ?_⟩
  simp (maxSteps := 4000000) only [zlc, zif0, zf3, D_CO_packed, Classical.not_not, zw_S, zk_iconst, zk_bipush, zk_sipush, zk_ldc, zk_ldc_w, zk_aconst_null, zk_iload_n, zk_iload, zk_aload_n, zk_aload, zk_istore_n, zk_istore, zk_astore_n, zk_astore, zk_iinc, zk_iadd, zk_isub, zk_imul, zk_idiv, zk_iand, zk_ior, zk_ixor, zk_ishl, zk_ishr, zk_iushr, zk_i2l, zk_lcmp, zk_dup, zk_pop, zk_dup_x1, zk_dup2, zk_dup_x2, zk_goto, zk_ifCond, zk_if_icmp, zk_tableswitch, zk_getfield, zk_putfield, zk_iaload, zk_iastore, zk_laload, zk_lastore, zk_arraylength, zk_invokestatic, zk_invokevirtual, zk_invokespecial, zk_new, zk_newarray, zk_ireturn, zk_areturn, zk_return_, zi1_k, zi2_k, zr1_k, zri_k, zrii_k, zril_k, zvr_k, zl2_k, zv1_k, zv2_k, zv3_k, zli_k, zlr_k, zob_k, zai_k, zal_k, zfv_k, zlim_k, zlrm_k, zobm_k, zaim_k, zalm_k, zfvm_k, zgetf_k, zput_k, zcal_k, zrv_n, zrv_s, zswT_n, zswT_c, zgo_k, zcc_eq, zcc_ne, zcc_lt, zcc_ge, zcc_gt, zcc_le, zldj_k, zexc_k, znew_k, zial_k, zct_i, zct_l, zct_r, zct_n, zKK_r, zKK_x, znr_i, znr_0, znr_1, znr_v, znr_a, znr_o, znar_i, znar_r, znar_a, zfit_i, zfit_r, zfit_a, zbc, zlit, eq_self, List.getElem?_cons_zero, List.getElem?_cons_succ, List.set_cons_zero, List.set_cons_succ, List.take_succ_cons, List.take_zero, List.drop_succ_cons, List.drop_zero, List.reverse_cons, List.reverse_nil, List.nil_append, List.cons_append, List.append_nil, List.length_cons, List.length_nil, List.map_cons, List.map_nil, List.sum_cons, List.sum_nil, Option.toList_some, Option.toList_none, Nat.zero_add, Nat.add_zero, Bool.or_false, Bool.false_or, Bool.or_true, Bool.true_or, Bool.not_true, Bool.not_false, ge_iff_le, Fin.isValue, Fin.val_zero, Fin.val_one, Fin.val_two, true_and, and_true, true_implies, false_implies, forall_const, if_true, if_false, ite_true, ite_false, reduceIte, reduceCtorEq, true_or, or_true, and_self, implies_true, not_false_eq_true, not_true_eq_false, Nat.le_refl, Nat.zero_le, and_false, false_and, Nat.reduceAdd, Nat.reduceSub, Nat.reduceLT, Nat.reduceLeDiff, Nat.reduceMul, Nat.reduceEqDiff, Int.reduceAdd, Int.reduceNeg, Int.reduceToNat, Int.reduceLE, Int.reduceNatCast, Int.reduceSub, Int.reduceLT, Int.reduceEq, List.replicate_zero, List.replicate_succ, Int.reduceNatCast', Int32.reduceOfInt, Int32.reduceLT, Int32.reduceLE, Int32.reduceAdd, Int32.reduceSub, Int32.reduceMul, Int32.reduceToInt, Int32.reduceToNatClampNeg]
  exact hT
def f_by (x : Int32) : Int32 := (255 * (if 0 < (if (65536 : Int32) < x then 65536 else x) then (if (65536 : Int32) < x then 65536 else x) else 0) + 32768) / 65536
def T_CO_byteOf : ClassId → ClassId → zT := fun _ _ as h K => match as with
  | [.int x] => K (.inl (some (.int (f_by x)))) h
  | _ => False
def E_CO_byteOf : ClassId → ClassId → Nat → Nat → Option zEn := fun cI cL kd i => match kd, i with
  | 0, 20 => some (2, none, true, true, 0, 0, zT_min)
  | 0, 26 => some (2, none, true, true, 0, 0, zT_max)
  | _, _ => none
theorem E_CO_byteOf_k : (∀ cI cL, E_CO_byteOf cI cL 0 20 = some (2, none, true, true, 0, 0, zT_min)) ∧ (∀ cI cL, E_CO_byteOf cI cL 0 26 = some (2, none, true, true, 0, 0, zT_max)) := ⟨fun _ _ => rfl, fun _ _ => rfl⟩
set_option maxHeartbeats 4000000 in
set_option maxRecDepth 100000 in
theorem C_CO_byteOf {l : Launch} (hl : l.stackTraces = false) : zC l y_CO_byteOf (Cond.code y_CO_byteOf prog_3_method_6_code 2 (some .int) :: wsG) (rmL 1 0 0) zcl true 0 0 T_CO_byteOf := by
  refine zC_of (G := zGn) (E := E_CO_byteOf) (X := zXn) (SL := zSn) (NW := zNn) (CS := CS_CO) (ctor := false) hl (by decide) rfl rfl rfl (fun _ _ _ _ _ z => by cases z) (fun z => by cases z) CS_CO_ok (fun _ _ _ _ z => by cases z) (List.mem_cons_of_mem _ ka_i) (fun _ _ _ z => by cases z) (fun _ z => by cases z) (by
    intro p e s m args below meth c D A cI cL hx hb hml hown hts hK hA hEX kd idx en hE
    unfold E_CO_byteOf at hE
    split at hE
    · cases hE; exact zRow_min hx hb hml hown hts (List.mem_cons_of_mem _ km_CO_20) (List.mem_cons_of_mem _ kj_s_min) (List.mem_cons_of_mem _ kj_n) (List.mem_cons_of_mem _ kj_c_min) (by decide) (by decide)
    · cases hE; exact zRow_max hx hb hml hown hts (List.mem_cons_of_mem _ km_CO_26) (List.mem_cons_of_mem _ kj_s_max) (List.mem_cons_of_mem _ kj_n) (List.mem_cons_of_mem _ kj_c_max) (by decide) (by decide)
    · cases hE) ?_
  intro cI cL as h K hT
  match as, hT with
  | [.int x], hT =>
  have hT : K (.inl (some (.int (f_by x)))) h := hT
  refine ⟨by simp [Value.category], by simp, fun Jd hc => zw_sound (J := fun _ => none) hc (fun _ _ z => by cases z) 19 0 _ _ _ _ _ _ ?_⟩
  simp (maxSteps := 4000000) only [zlc, zif0, zf3, D_CO_byteOf, E_CO_byteOf_k, zT_min, zT_max, CS_CO_k, Classical.not_not, zw_S, zk_iconst, zk_bipush, zk_sipush, zk_ldc, zk_ldc_w, zk_aconst_null, zk_iload_n, zk_iload, zk_aload_n, zk_aload, zk_istore_n, zk_istore, zk_astore_n, zk_astore, zk_iinc, zk_iadd, zk_isub, zk_imul, zk_idiv, zk_iand, zk_ior, zk_ixor, zk_ishl, zk_ishr, zk_iushr, zk_i2l, zk_lcmp, zk_dup, zk_pop, zk_dup_x1, zk_dup2, zk_dup_x2, zk_goto, zk_ifCond, zk_if_icmp, zk_tableswitch, zk_getfield, zk_putfield, zk_iaload, zk_iastore, zk_laload, zk_lastore, zk_arraylength, zk_invokestatic, zk_invokevirtual, zk_invokespecial, zk_new, zk_newarray, zk_ireturn, zk_areturn, zk_return_, zi1_k, zi2_k, zr1_k, zri_k, zrii_k, zril_k, zvr_k, zl2_k, zv1_k, zv2_k, zv3_k, zli_k, zlr_k, zob_k, zai_k, zal_k, zfv_k, zlim_k, zlrm_k, zobm_k, zaim_k, zalm_k, zfvm_k, zgetf_k, zput_k, zcal_k, zrv_n, zrv_s, zswT_n, zswT_c, zgo_k, zcc_eq, zcc_ne, zcc_lt, zcc_ge, zcc_gt, zcc_le, zldj_k, zexc_k, znew_k, zial_k, zct_i, zct_l, zct_r, zct_n, zKK_r, zKK_x, znr_i, znr_0, znr_1, znr_v, znr_a, znr_o, znar_i, znar_r, znar_a, zfit_i, zfit_r, zfit_a, zbc, zlit, eq_self, List.getElem?_cons_zero, List.getElem?_cons_succ, List.set_cons_zero, List.set_cons_succ, List.take_succ_cons, List.take_zero, List.drop_succ_cons, List.drop_zero, List.reverse_cons, List.reverse_nil, List.nil_append, List.cons_append, List.append_nil, List.length_cons, List.length_nil, List.map_cons, List.map_nil, List.sum_cons, List.sum_nil, Option.toList_some, Option.toList_none, Nat.zero_add, Nat.add_zero, Bool.or_false, Bool.false_or, Bool.or_true, Bool.true_or, Bool.not_true, Bool.not_false, ge_iff_le, Fin.isValue, Fin.val_zero, Fin.val_one, Fin.val_two, true_and, and_true, true_implies, false_implies, forall_const, if_true, if_false, ite_true, ite_false, reduceIte, reduceCtorEq, true_or, or_true, and_self, implies_true, not_false_eq_true, not_true_eq_false, Nat.le_refl, Nat.zero_le, and_false, false_and, Nat.reduceAdd, Nat.reduceSub, Nat.reduceLT, Nat.reduceLeDiff, Nat.reduceMul, Nat.reduceEqDiff, Int.reduceAdd, Int.reduceNeg, Int.reduceToNat, Int.reduceLE, Int.reduceNatCast, Int.reduceSub, Int.reduceLT, Int.reduceEq, List.replicate_zero, List.replicate_succ, Int.reduceNatCast', Int32.reduceOfInt, Int32.reduceLT, Int32.reduceLE, Int32.reduceAdd, Int32.reduceSub, Int32.reduceMul, Int32.reduceToInt, Int32.reduceToNatClampNeg]
  exact ⟨by decide, hT⟩
def T_CO_ofFixed : ClassId → ClassId → zT := fun _ _ as h K => match as with
  | [.int r, .int g, .int b, .int a] => K (.inl (some (.int (f_pk (f_by r) (f_by g) (f_by b) (f_by a))))) h
  | _ => False
def E_CO_ofFixed : ClassId → ClassId → Nat → Nat → Option zEn := fun cI cL kd i => match kd, i with
  | 0, 11 => some (1, none, true, true, 0, 0, T_CO_byteOf cI cL)
  | 0, 15 => some (4, none, true, true, 0, 0, T_CO_packed cI cL)
  | _, _ => none
theorem E_CO_ofFixed_k : (∀ cI cL, E_CO_ofFixed cI cL 0 11 = some (1, none, true, true, 0, 0, T_CO_byteOf cI cL)) ∧ (∀ cI cL, E_CO_ofFixed cI cL 0 15 = some (4, none, true, true, 0, 0, T_CO_packed cI cL)) := ⟨fun _ _ => rfl, fun _ _ => rfl⟩
set_option maxHeartbeats 4000000 in
set_option maxRecDepth 100000 in
theorem C_CO_ofFixed {l : Launch} (hl : l.stackTraces = false) : zC l y_CO_ofFixed (Cond.code y_CO_ofFixed prog_3_method_5_code 4 (some .int) :: wsG) (rmL 2 0 0) zcl true 0 0 T_CO_ofFixed := by
  refine zC_of (G := zGn) (E := E_CO_ofFixed) (X := zXn) (SL := zSn) (NW := zNn) (CS := zCn) (ctor := false) hl (by decide) rfl rfl rfl (fun _ _ _ _ _ z => by cases z) (fun z => by cases z) (fun _ _ z => by cases z) (fun _ _ _ _ z => by cases z) (List.mem_cons_of_mem _ ka_i) (fun _ _ _ z => by cases z) (fun _ z => by cases z) (by
    intro p e s m args below meth c D A cI cL hx hb hml hown hts hK hA hEX kd idx en hE
    unfold E_CO_ofFixed at hE
    split at hE
    · cases hE; exact zRow_S (C_CO_byteOf hl) rfl (Or.inl ⟨_, _, rfl⟩) hx hb hml hown hts hK hA hEX (hin_c kb_CO_byteOf) (List.mem_cons_of_mem _ kn_CO) (List.mem_cons_of_mem _ ks_CO_byteOf) (Or.inl (List.mem_cons_of_mem _ km_CO_11)) (by decide) (by decide) (by decide) rfl rfl
    · cases hE; exact zRow_S (C_CO_packed hl) rfl (Or.inl ⟨_, _, rfl⟩) hx hb hml hown hts hK hA hEX (hin_c kb_CO_packed) (List.mem_cons_of_mem _ kn_CO) (List.mem_cons_of_mem _ ks_CO_packed) (Or.inl (List.mem_cons_of_mem _ km_CO_15)) (by decide) (by decide) (by decide) rfl rfl
    · cases hE) ?_
  intro cI cL as h K hT
  match as, hT with
  | [.int r, .int g, .int b, .int a], hT =>
  have hT : K (.inl (some (.int (f_pk (f_by r) (f_by g) (f_by b) (f_by a))))) h := hT
  refine ⟨by simp [Value.category], by simp, fun Jd hc => zw_sound (J := fun _ => none) hc (fun _ _ z => by cases z) 15 0 _ _ _ _ _ _ ?_⟩
  simp (maxSteps := 4000000) only [zlc, zif0, zf3, D_CO_ofFixed, E_CO_ofFixed_k, T_CO_byteOf, T_CO_packed, Classical.not_not, zw_S, zk_iconst, zk_bipush, zk_sipush, zk_ldc, zk_ldc_w, zk_aconst_null, zk_iload_n, zk_iload, zk_aload_n, zk_aload, zk_istore_n, zk_istore, zk_astore_n, zk_astore, zk_iinc, zk_iadd, zk_isub, zk_imul, zk_idiv, zk_iand, zk_ior, zk_ixor, zk_ishl, zk_ishr, zk_iushr, zk_i2l, zk_lcmp, zk_dup, zk_pop, zk_dup_x1, zk_dup2, zk_dup_x2, zk_goto, zk_ifCond, zk_if_icmp, zk_tableswitch, zk_getfield, zk_putfield, zk_iaload, zk_iastore, zk_laload, zk_lastore, zk_arraylength, zk_invokestatic, zk_invokevirtual, zk_invokespecial, zk_new, zk_newarray, zk_ireturn, zk_areturn, zk_return_, zi1_k, zi2_k, zr1_k, zri_k, zrii_k, zril_k, zvr_k, zl2_k, zv1_k, zv2_k, zv3_k, zli_k, zlr_k, zob_k, zai_k, zal_k, zfv_k, zlim_k, zlrm_k, zobm_k, zaim_k, zalm_k, zfvm_k, zgetf_k, zput_k, zcal_k, zrv_n, zrv_s, zswT_n, zswT_c, zgo_k, zcc_eq, zcc_ne, zcc_lt, zcc_ge, zcc_gt, zcc_le, zldj_k, zexc_k, znew_k, zial_k, zct_i, zct_l, zct_r, zct_n, zKK_r, zKK_x, znr_i, znr_0, znr_1, znr_v, znr_a, znr_o, znar_i, znar_r, znar_a, zfit_i, zfit_r, zfit_a, zbc, zlit, eq_self, List.getElem?_cons_zero, List.getElem?_cons_succ, List.set_cons_zero, List.set_cons_succ, List.take_succ_cons, List.take_zero, List.drop_succ_cons, List.drop_zero, List.reverse_cons, List.reverse_nil, List.nil_append, List.cons_append, List.append_nil, List.length_cons, List.length_nil, List.map_cons, List.map_nil, List.sum_cons, List.sum_nil, Option.toList_some, Option.toList_none, Nat.zero_add, Nat.add_zero, Bool.or_false, Bool.false_or, Bool.or_true, Bool.true_or, Bool.not_true, Bool.not_false, ge_iff_le, Fin.isValue, Fin.val_zero, Fin.val_one, Fin.val_two, true_and, and_true, true_implies, false_implies, forall_const, if_true, if_false, ite_true, ite_false, reduceIte, reduceCtorEq, true_or, or_true, and_self, implies_true, not_false_eq_true, not_true_eq_false, Nat.le_refl, Nat.zero_le, and_false, false_and, Nat.reduceAdd, Nat.reduceSub, Nat.reduceLT, Nat.reduceLeDiff, Nat.reduceMul, Nat.reduceEqDiff, Int.reduceAdd, Int.reduceNeg, Int.reduceToNat, Int.reduceLE, Int.reduceNatCast, Int.reduceSub, Int.reduceLT, Int.reduceEq, List.replicate_zero, List.replicate_succ, Int.reduceNatCast', Int32.reduceOfInt, Int32.reduceLT, Int32.reduceLE, Int32.reduceAdd, Int32.reduceSub, Int32.reduceMul, Int32.reduceToInt, Int32.reduceToNatClampNeg]
  exact hT
def f_lg (n s d : Int32) : Int32 := (if n &&& 8 = 0 then (if n &&& 4 = 0 then (if n &&& 2 = 0 then (if n &&& 1 = 0 then 0 else 0 ||| ((s ^^^ (-1)) &&& (d ^^^ (-1)))) else (if n &&& 1 = 0 then 0 else 0 ||| ((s ^^^ (-1)) &&& (d ^^^ (-1)))) ||| ((s ^^^ (-1)) &&& d)) else (if n &&& 2 = 0 then (if n &&& 1 = 0 then 0 else 0 ||| ((s ^^^ (-1)) &&& (d ^^^ (-1)))) else (if n &&& 1 = 0 then 0 else 0 ||| ((s ^^^ (-1)) &&& (d ^^^ (-1)))) ||| ((s ^^^ (-1)) &&& d)) ||| (s &&& (d ^^^ (-1)))) else (if n &&& 4 = 0 then (if n &&& 2 = 0 then (if n &&& 1 = 0 then 0 else 0 ||| ((s ^^^ (-1)) &&& (d ^^^ (-1)))) else (if n &&& 1 = 0 then 0 else 0 ||| ((s ^^^ (-1)) &&& (d ^^^ (-1)))) ||| ((s ^^^ (-1)) &&& d)) else (if n &&& 2 = 0 then (if n &&& 1 = 0 then 0 else 0 ||| ((s ^^^ (-1)) &&& (d ^^^ (-1)))) else (if n &&& 1 = 0 then 0 else 0 ||| ((s ^^^ (-1)) &&& (d ^^^ (-1)))) ||| ((s ^^^ (-1)) &&& d)) ||| (s &&& (d ^^^ (-1)))) ||| (s &&& d))
def T_CO_byLogic : ClassId → ClassId → zT := fun _ _ as h K => match as with
  | [.int n, .int s, .int d] => K (.inl (some (.int (f_lg n s d)))) h
  | _ => False
set_option maxHeartbeats 4000000 in
set_option maxRecDepth 100000 in
theorem C_CO_byLogic {l : Launch} (hl : l.stackTraces = false) : zC l y_CO_byLogic (Cond.code y_CO_byLogic prog_3_method_7_code 4 (some .int) :: wsG) (rmL 1 0 0) zcl true 0 0 T_CO_byLogic := by
  refine zC_of (G := zGn) (E := zEn0) (X := zXn) (SL := zSn) (NW := zNn) (CS := zCn) (ctor := false) hl (by decide) rfl rfl rfl (fun _ _ _ _ _ z => by cases z) (fun z => by cases z) (fun _ _ z => by cases z) (fun _ _ _ _ z => by cases z) (List.mem_cons_of_mem _ ka_i) (fun _ _ _ z => by cases z) (fun _ z => by cases z) (fun _ _ _ _ _ _ _ _ _ _ _ _ _ _ _ _ _ _ _ _ _ _ _ z => by cases z) ?_
  intro cI cL as h K hT
  match as, hT with
  | [.int n, .int s, .int d], hT =>
  have hT : K (.inl (some (.int (f_lg n s d)))) h := hT
  refine ⟨by simp [Value.category], by simp, fun Jd hc => zw_sound (J := fun _ => none) hc (fun _ _ z => by cases z) 57 0 _ _ _ _ _ _ ?_⟩
  simp (maxSteps := 4000000) only [zlc, zif0, zf3, D_CO_byLogic, Classical.not_not, zw_S, zk_iconst, zk_bipush, zk_sipush, zk_ldc, zk_ldc_w, zk_aconst_null, zk_iload_n, zk_iload, zk_aload_n, zk_aload, zk_istore_n, zk_istore, zk_astore_n, zk_astore, zk_iinc, zk_iadd, zk_isub, zk_imul, zk_idiv, zk_iand, zk_ior, zk_ixor, zk_ishl, zk_ishr, zk_iushr, zk_i2l, zk_lcmp, zk_dup, zk_pop, zk_dup_x1, zk_dup2, zk_dup_x2, zk_goto, zk_ifCond, zk_if_icmp, zk_tableswitch, zk_getfield, zk_putfield, zk_iaload, zk_iastore, zk_laload, zk_lastore, zk_arraylength, zk_invokestatic, zk_invokevirtual, zk_invokespecial, zk_new, zk_newarray, zk_ireturn, zk_areturn, zk_return_, zi1_k, zi2_k, zr1_k, zri_k, zrii_k, zril_k, zvr_k, zl2_k, zv1_k, zv2_k, zv3_k, zli_k, zlr_k, zob_k, zai_k, zal_k, zfv_k, zlim_k, zlrm_k, zobm_k, zaim_k, zalm_k, zfvm_k, zgetf_k, zput_k, zcal_k, zrv_n, zrv_s, zswT_n, zswT_c, zgo_k, zcc_eq, zcc_ne, zcc_lt, zcc_ge, zcc_gt, zcc_le, zldj_k, zexc_k, znew_k, zial_k, zct_i, zct_l, zct_r, zct_n, zKK_r, zKK_x, znr_i, znr_0, znr_1, znr_v, znr_a, znr_o, znar_i, znar_r, znar_a, zfit_i, zfit_r, zfit_a, zbc, zlit, eq_self, List.getElem?_cons_zero, List.getElem?_cons_succ, List.set_cons_zero, List.set_cons_succ, List.take_succ_cons, List.take_zero, List.drop_succ_cons, List.drop_zero, List.reverse_cons, List.reverse_nil, List.nil_append, List.cons_append, List.append_nil, List.length_cons, List.length_nil, List.map_cons, List.map_nil, List.sum_cons, List.sum_nil, Option.toList_some, Option.toList_none, Nat.zero_add, Nat.add_zero, Bool.or_false, Bool.false_or, Bool.or_true, Bool.true_or, Bool.not_true, Bool.not_false, ge_iff_le, Fin.isValue, Fin.val_zero, Fin.val_one, Fin.val_two, true_and, and_true, true_implies, false_implies, forall_const, if_true, if_false, ite_true, ite_false, reduceIte, reduceCtorEq, true_or, or_true, and_self, implies_true, not_false_eq_true, not_true_eq_false, Nat.le_refl, Nat.zero_le, and_false, false_and, Nat.reduceAdd, Nat.reduceSub, Nat.reduceLT, Nat.reduceLeDiff, Nat.reduceMul, Nat.reduceEqDiff, Int.reduceAdd, Int.reduceNeg, Int.reduceToNat, Int.reduceLE, Int.reduceNatCast, Int.reduceSub, Int.reduceLT, Int.reduceEq, List.replicate_zero, List.replicate_succ, Int.reduceNatCast', Int32.reduceOfInt, Int32.reduceLT, Int32.reduceLE, Int32.reduceAdd, Int32.reduceSub, Int32.reduceMul, Int32.reduceToInt, Int32.reduceToNatClampNeg]
  repeat' (first | (intro _) | (apply And.intro))
  all_goals (first | exact hT | (simp only [f_lg, *, if_true, if_false, reduceIte, not_true_eq_false, not_false_eq_true] at hT; exact hT) | (simp [f_lg, *] at hT; exact hT) | (simp [f_lg, *] at hT ⊢; exact hT) | (simp_all [f_lg]; done))
def f_bw (x : Int32) : Int32 := if (255 : Int32) < ((if x < 0 then 0 else x) + 127) / 255 then 255 else ((if x < 0 then 0 else x) + 127) / 255
def T_BL_byteOfWeighted : ClassId → ClassId → zT := fun _ _ as h K => match as with
  | [.int x] => K (.inl (some (.int (f_bw x)))) h
  | _ => False
def E_BL_byteOfWeighted : ClassId → ClassId → Nat → Nat → Option zEn := fun cI cL kd i => match kd, i with
  | 0, 53 => some (2, none, true, true, 0, 0, zT_max)
  | 0, 48 => some (2, none, true, true, 0, 0, zT_min)
  | _, _ => none
theorem E_BL_byteOfWeighted_k : (∀ cI cL, E_BL_byteOfWeighted cI cL 0 53 = some (2, none, true, true, 0, 0, zT_max)) ∧ (∀ cI cL, E_BL_byteOfWeighted cI cL 0 48 = some (2, none, true, true, 0, 0, zT_min)) := ⟨fun _ _ => rfl, fun _ _ => rfl⟩
set_option maxHeartbeats 4000000 in
set_option maxRecDepth 100000 in
theorem C_BL_byteOfWeighted {l : Launch} (hl : l.stackTraces = false) : zC l y_BL_byteOfWeighted (Cond.code y_BL_byteOfWeighted prog_2_method_5_code 2 (some .int) :: wsG) (rmL 1 0 0) zcl true 0 0 T_BL_byteOfWeighted := by
  refine zC_of (G := zGn) (E := E_BL_byteOfWeighted) (X := zXn) (SL := zSn) (NW := zNn) (CS := zCn) (ctor := false) hl (by decide) rfl rfl rfl (fun _ _ _ _ _ z => by cases z) (fun z => by cases z) (fun _ _ z => by cases z) (fun _ _ _ _ z => by cases z) (List.mem_cons_of_mem _ ka_i) (fun _ _ _ z => by cases z) (fun _ z => by cases z) (by
    intro p e s m args below meth c D A cI cL hx hb hml hown hts hK hA hEX kd idx en hE
    unfold E_BL_byteOfWeighted at hE
    split at hE
    · cases hE; exact zRow_max hx hb hml hown hts (List.mem_cons_of_mem _ km_BL_53) (List.mem_cons_of_mem _ kj_s_max) (List.mem_cons_of_mem _ kj_n) (List.mem_cons_of_mem _ kj_c_max) (by decide) (by decide)
    · cases hE; exact zRow_min hx hb hml hown hts (List.mem_cons_of_mem _ km_BL_48) (List.mem_cons_of_mem _ kj_s_min) (List.mem_cons_of_mem _ kj_n) (List.mem_cons_of_mem _ kj_c_min) (by decide) (by decide)
    · cases hE) ?_
  intro cI cL as h K hT
  match as, hT with
  | [.int x], hT =>
  have hT : K (.inl (some (.int (f_bw x)))) h := hT
  refine ⟨by simp [Value.category], by simp, fun Jd hc => zw_sound (J := fun _ => none) hc (fun _ _ z => by cases z) 17 0 _ _ _ _ _ _ ?_⟩
  simp (maxSteps := 4000000) only [zlc, zif0, zf3, D_BL_byteOfWeighted, E_BL_byteOfWeighted_k, zT_max, zT_min, Classical.not_not, zw_S, zk_iconst, zk_bipush, zk_sipush, zk_ldc, zk_ldc_w, zk_aconst_null, zk_iload_n, zk_iload, zk_aload_n, zk_aload, zk_istore_n, zk_istore, zk_astore_n, zk_astore, zk_iinc, zk_iadd, zk_isub, zk_imul, zk_idiv, zk_iand, zk_ior, zk_ixor, zk_ishl, zk_ishr, zk_iushr, zk_i2l, zk_lcmp, zk_dup, zk_pop, zk_dup_x1, zk_dup2, zk_dup_x2, zk_goto, zk_ifCond, zk_if_icmp, zk_tableswitch, zk_getfield, zk_putfield, zk_iaload, zk_iastore, zk_laload, zk_lastore, zk_arraylength, zk_invokestatic, zk_invokevirtual, zk_invokespecial, zk_new, zk_newarray, zk_ireturn, zk_areturn, zk_return_, zi1_k, zi2_k, zr1_k, zri_k, zrii_k, zril_k, zvr_k, zl2_k, zv1_k, zv2_k, zv3_k, zli_k, zlr_k, zob_k, zai_k, zal_k, zfv_k, zlim_k, zlrm_k, zobm_k, zaim_k, zalm_k, zfvm_k, zgetf_k, zput_k, zcal_k, zrv_n, zrv_s, zswT_n, zswT_c, zgo_k, zcc_eq, zcc_ne, zcc_lt, zcc_ge, zcc_gt, zcc_le, zldj_k, zexc_k, znew_k, zial_k, zct_i, zct_l, zct_r, zct_n, zKK_r, zKK_x, znr_i, znr_0, znr_1, znr_v, znr_a, znr_o, znar_i, znar_r, znar_a, zfit_i, zfit_r, zfit_a, zbc, zlit, eq_self, List.getElem?_cons_zero, List.getElem?_cons_succ, List.set_cons_zero, List.set_cons_succ, List.take_succ_cons, List.take_zero, List.drop_succ_cons, List.drop_zero, List.reverse_cons, List.reverse_nil, List.nil_append, List.cons_append, List.append_nil, List.length_cons, List.length_nil, List.map_cons, List.map_nil, List.sum_cons, List.sum_nil, Option.toList_some, Option.toList_none, Nat.zero_add, Nat.add_zero, Bool.or_false, Bool.false_or, Bool.or_true, Bool.true_or, Bool.not_true, Bool.not_false, ge_iff_le, Fin.isValue, Fin.val_zero, Fin.val_one, Fin.val_two, true_and, and_true, true_implies, false_implies, forall_const, if_true, if_false, ite_true, ite_false, reduceIte, reduceCtorEq, true_or, or_true, and_self, implies_true, not_false_eq_true, not_true_eq_false, Nat.le_refl, Nat.zero_le, and_false, false_and, Nat.reduceAdd, Nat.reduceSub, Nat.reduceLT, Nat.reduceLeDiff, Nat.reduceMul, Nat.reduceEqDiff, Int.reduceAdd, Int.reduceNeg, Int.reduceToNat, Int.reduceLE, Int.reduceNatCast, Int.reduceSub, Int.reduceLT, Int.reduceEq, List.replicate_zero, List.replicate_succ, Int.reduceNatCast', Int32.reduceOfInt, Int32.reduceLT, Int32.reduceLE, Int32.reduceAdd, Int32.reduceSub, Int32.reduceMul, Int32.reduceToInt, Int32.reduceToNatClampNeg]
  exact ⟨by decide, hT⟩

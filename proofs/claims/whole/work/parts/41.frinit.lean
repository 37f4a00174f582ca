theorem zmm : ((if (4096 : Int32) < 1 then (4096 : Int32) else 1) = 1) ∧ ((if (4096 : Int32) < 4096 then (4096 : Int32) else 4096) = 4096) ∧ ((if (1 : Int32) < 1 then (1 : Int32) else 1) = 1) ∧ ((if (1 : Int32) < 4096 then (4096 : Int32) else 1) = 4096) := by decide
theorem zbk : (∀ n x, zb_o n (some (.int x)) = True) ∧ (∀ n i, zb_o n (some (.ref i)) = (i < n)) ∧ (∀ n, zb_o n none = True) ∧ (∀ n x, zb_v n (.int x) = True) ∧ (∀ n i, zb_v n (.ref i) = (i < n)) ∧ (∀ n, zb_v n .null = True) ∧ (∀ n a, zb_e n (.inl a) = True) ∧ (∀ n ci fs, zb_e n (.inr (ci, fs)) = ∀ v ∈ fs, zb_v n v) := ⟨fun _ _ => propext Iff.rfl, fun _ _ => propext Iff.rfl, fun _ => propext Iff.rfl, fun _ _ => propext Iff.rfl, fun _ _ => propext Iff.rfl, fun _ => propext Iff.rfl, fun _ _ => propext Iff.rfl, fun _ _ _ => propext Iff.rfl⟩
theorem zap_g {α : Type} (a : List α) (x : α) (t : List α) : (a ++ x :: t)[a.length]? = some x := by simp
theorem zap_s {α : Type} (a : List α) (x y : α) (t : List α) : (a ++ x :: t).set a.length y = a ++ y :: t := by simp
theorem zb_up {h : zH} {n m : Nat} (hnm : n ≤ m) (hb : ∀ y ∈ h, zb_e n y) : ∀ y ∈ h, zb_e m y := by
  intro y hy
  have := hb y hy
  cases y with
  | inl a => trivial
  | inr o => intro v hv; have := this v hv; cases v <;> first | trivial | exact Nat.lt_of_lt_of_le this hnm
def T_FR_init : ClassId → ClassId → zT := fun cI _ as h K => ∃ (h0 : zH) (m : Int32), as = [.ref h0.length, .int m] ∧ h = h0 ++ [.inr (1, [.int 0, .null, .null, .null, .int 0, .int 0, .int 0, .int 0, .int 0])] ∧ (m = 1 ∨ m = 4096) ∧ (∀ y ∈ h0, zb_e h0.length y) ∧ h0.length + 10 < 1000 ∧ K (.inl none) (h0 ++ [.inr (1, [.int m, .ref (h0.length + 1), .ref (h0.length + 2), .ref (h0.length + 3), .int 0, .int 0, .int 1, .int 1, .int 1]), .inl (cI, m.toNatClampNeg, .inl (fun _ => 0)), .inl (cI, m.toNatClampNeg, .inl (fun _ => 0)), .inl (cI, m.toNatClampNeg, .inl (fun _ => 0))])
theorem T_FR_init_r {cI cL : ClassId} : ∀ as h K, T_FR_init cI cL as h K → ∃ i as', as = .ref i :: as' := by
  rintro as h K ⟨h0, m, rfl, -⟩
  exact ⟨_, _, rfl⟩
def E_FR_init : ClassId → ClassId → Nat → Nat → Option zEn := fun cI cL kd i => match kd, i with
  | 2, 5 => some (1, none, true, true, 0, 0, zT_obj)
  | 0, 11 => some (2, none, true, true, 0, 0, zT_min)
  | 0, 17 => some (2, none, true, true, 0, 0, zT_max)
  | _, _ => none
theorem E_FR_init_k : (∀ cI cL, E_FR_init cI cL 2 5 = some (1, none, true, true, 0, 0, zT_obj)) ∧ (∀ cI cL, E_FR_init cI cL 0 11 = some (2, none, true, true, 0, 0, zT_min)) ∧ (∀ cI cL, E_FR_init cI cL 0 17 = some (2, none, true, true, 0, 0, zT_max)) := ⟨fun _ _ => rfl, fun _ _ => rfl, fun _ _ => rfl⟩
set_option maxHeartbeats 4000000 in
set_option maxRecDepth 100000 in
theorem C_FR_init {l : Launch} (hl : l.stackTraces = false) : zC l y_FR_init (Cond.code y_FR_init prog_4_method_1_code 2 none :: wsG) (rmL 1 3 12288) zcl false 3 12288 T_FR_init := by
  refine zC_of (G := G_FR_c) (E := E_FR_init) (X := zXn) (SL := zSn) (NW := zNn) (CS := zCn) (ctor := true) hl (by decide) rfl rfl rfl G_FR_c_ok (fun z => rfl) (fun _ _ z => by cases z) (fun _ _ _ _ z => by cases z) (List.mem_cons_of_mem _ ka_i) (fun _ _ _ z => by cases z) (fun _ z => by cases z) (by
    intro p e s m args below meth c D A cI cL hx hb hml hown hts hK hA hEX kd idx en hE
    unfold E_FR_init at hE
    split at hE
    · cases hE; exact zRow_obj hx hb hml hown hts (List.mem_cons_of_mem _ km_FR_5) (List.mem_cons_of_mem _ ko_i) (List.mem_cons_of_mem _ ko_c) (by decide) (by decide)
    · cases hE; exact zRow_min hx hb hml hown hts (List.mem_cons_of_mem _ km_FR_11) (List.mem_cons_of_mem _ kj_s_min) (List.mem_cons_of_mem _ kj_n) (List.mem_cons_of_mem _ kj_c_min) (by decide) (by decide)
    · cases hE; exact zRow_max hx hb hml hown hts (List.mem_cons_of_mem _ km_FR_17) (List.mem_cons_of_mem _ kj_s_max) (List.mem_cons_of_mem _ kj_n) (List.mem_cons_of_mem _ kj_c_max) (by decide) (by decide)
    · cases hE) ?_
  intro cI cL as h K hT
  obtain ⟨h0, m, rfl, rfl, hm, hb, hlen, hT⟩ := hT
  have b1 := zb_up (Nat.le_add_right _ 1) hb
  have b2 := zb_up (Nat.le_add_right _ 2) hb
  have b3 := zb_up (Nat.le_add_right _ 3) hb
  have l1 : h0.length + 1 < 1000 := by omega
  have l2 : h0.length + 2 < 1000 := by omega
  have l3 : h0.length + 3 < 1000 := by omega
  have o1 : h0.length < h0.length + 1 := by omega
  have o2 : h0.length < h0.length + 2 := by omega
  have o3 : h0.length < h0.length + 3 := by omega
  have o4 : h0.length + 1 < h0.length + 2 := by omega
  have o5 : h0.length + 1 < h0.length + 3 := by omega
  have o6 : h0.length + 2 < h0.length + 3 := by omega
  refine ⟨by simp [Value.category], by simp, fun Jd hc => zw_sound (J := fun _ => none) hc (fun _ _ z => by cases z) 50 0 _ _ _ _ _ _ ?_⟩
  rcases hm with rfl | rfl
  · simp (maxSteps := 4000000) only [zap_g, zap_s, b1, b2, b3, l1, l2, l3, o1, o2, o3, o4, o5, o6, List.append_assoc, List.length_append, Nat.add_assoc, List.forall_mem_cons, List.forall_mem_append, List.not_mem_nil, zbk, zmm, zlc, zif0, zf3, D_FR_init, G_FR_c_k, E_FR_init_k, zT_obj, zT_min, zT_max, Classical.not_not, zw_S, zk_iconst, zk_bipush, zk_sipush, zk_ldc, zk_ldc_w, zk_aconst_null, zk_iload_n, zk_iload, zk_aload_n, zk_aload, zk_istore_n, zk_istore, zk_astore_n, zk_astore, zk_iinc, zk_iadd, zk_isub, zk_imul, zk_idiv, zk_iand, zk_ior, zk_ixor, zk_ishl, zk_ishr, zk_iushr, zk_i2l, zk_lcmp, zk_dup, zk_pop, zk_dup_x1, zk_dup2, zk_dup_x2, zk_goto, zk_ifCond, zk_if_icmp, zk_tableswitch, zk_getfield, zk_putfield, zk_iaload, zk_iastore, zk_laload, zk_lastore, zk_arraylength, zk_invokestatic, zk_invokevirtual, zk_invokespecial, zk_new, zk_newarray, zk_ireturn, zk_areturn, zk_return_, zi1_k, zi2_k, zr1_k, zri_k, zrii_k, zril_k, zvr_k, zl2_k, zv1_k, zv2_k, zv3_k, zli_k, zlr_k, zob_k, zai_k, zal_k, zfv_k, zlim_k, zlrm_k, zobm_k, zaim_k, zalm_k, zfvm_k, zgetf_k, zput_k, zcal_k, zrv_n, zrv_s, zswT_n, zswT_c, zgo_k, zcc_eq, zcc_ne, zcc_lt, zcc_ge, zcc_gt, zcc_le, zldj_k, zexc_k, znew_k, zial_k, zct_i, zct_l, zct_r, zct_n, zKK_r, zKK_x, znr_i, znr_0, znr_1, znr_v, znr_a, znr_o, znar_i, znar_r, znar_a, zfit_i, zfit_r, zfit_a, zbc, zlit, eq_self, List.getElem?_cons_zero, List.getElem?_cons_succ, List.set_cons_zero, List.set_cons_succ, List.take_succ_cons, List.take_zero, List.drop_succ_cons, List.drop_zero, List.reverse_cons, List.reverse_nil, List.nil_append, List.cons_append, List.append_nil, List.length_cons, List.length_nil, List.map_cons, List.map_nil, List.sum_cons, List.sum_nil, Option.toList_some, Option.toList_none, Nat.zero_add, Nat.add_zero, Bool.or_false, Bool.false_or, Bool.or_true, Bool.true_or, Bool.not_true, Bool.not_false, ge_iff_le, Fin.isValue, Fin.val_zero, Fin.val_one, Fin.val_two, true_and, and_true, true_implies, false_implies, forall_const, if_true, if_false, ite_true, ite_false, reduceIte, reduceCtorEq, true_or, or_true, and_self, implies_true, not_false_eq_true, not_true_eq_false, Nat.le_refl, Nat.zero_le, and_false, false_and, Nat.reduceAdd, Nat.reduceSub, Nat.reduceLT, Nat.reduceLeDiff, Nat.reduceMul, Nat.reduceEqDiff, Int.reduceAdd, Int.reduceNeg, Int.reduceToNat, Int.reduceLE, Int.reduceNatCast, Int.reduceSub, Int.reduceLT, Int.reduceEq, List.replicate_zero, List.replicate_succ, Int.reduceNatCast', Int32.reduceOfInt, Int32.reduceLT, Int32.reduceLE, Int32.reduceAdd, Int32.reduceSub, Int32.reduceMul, Int32.reduceToInt, Int32.reduceToNatClampNeg]
    simp only [Int32.reduceToNatClampNeg] at hT
    exact ⟨b1, b2, b3, hT⟩
  · simp (maxSteps := 4000000) only [zap_g, zap_s, b1, b2, b3, l1, l2, l3, o1, o2, o3, o4, o5, o6, List.append_assoc, List.length_append, Nat.add_assoc, List.forall_mem_cons, List.forall_mem_append, List.not_mem_nil, zbk, zmm, zlc, zif0, zf3, D_FR_init, G_FR_c_k, E_FR_init_k, zT_obj, zT_min, zT_max, Classical.not_not, zw_S, zk_iconst, zk_bipush, zk_sipush, zk_ldc, zk_ldc_w, zk_aconst_null, zk_iload_n, zk_iload, zk_aload_n, zk_aload, zk_istore_n, zk_istore, zk_astore_n, zk_astore, zk_iinc, zk_iadd, zk_isub, zk_imul, zk_idiv, zk_iand, zk_ior, zk_ixor, zk_ishl, zk_ishr, zk_iushr, zk_i2l, zk_lcmp, zk_dup, zk_pop, zk_dup_x1, zk_dup2, zk_dup_x2, zk_goto, zk_ifCond, zk_if_icmp, zk_tableswitch, zk_getfield, zk_putfield, zk_iaload, zk_iastore, zk_laload, zk_lastore, zk_arraylength, zk_invokestatic, zk_invokevirtual, zk_invokespecial, zk_new, zk_newarray, zk_ireturn, zk_areturn, zk_return_, zi1_k, zi2_k, zr1_k, zri_k, zrii_k, zril_k, zvr_k, zl2_k, zv1_k, zv2_k, zv3_k, zli_k, zlr_k, zob_k, zai_k, zal_k, zfv_k, zlim_k, zlrm_k, zobm_k, zaim_k, zalm_k, zfvm_k, zgetf_k, zput_k, zcal_k, zrv_n, zrv_s, zswT_n, zswT_c, zgo_k, zcc_eq, zcc_ne, zcc_lt, zcc_ge, zcc_gt, zcc_le, zldj_k, zexc_k, znew_k, zial_k, zct_i, zct_l, zct_r, zct_n, zKK_r, zKK_x, znr_i, znr_0, znr_1, znr_v, znr_a, znr_o, znar_i, znar_r, znar_a, zfit_i, zfit_r, zfit_a, zbc, zlit, eq_self, List.getElem?_cons_zero, List.getElem?_cons_succ, List.set_cons_zero, List.set_cons_succ, List.take_succ_cons, List.take_zero, List.drop_succ_cons, List.drop_zero, List.reverse_cons, List.reverse_nil, List.nil_append, List.cons_append, List.append_nil, List.length_cons, List.length_nil, List.map_cons, List.map_nil, List.sum_cons, List.sum_nil, Option.toList_some, Option.toList_none, Nat.zero_add, Nat.add_zero, Bool.or_false, Bool.false_or, Bool.or_true, Bool.true_or, Bool.not_true, Bool.not_false, ge_iff_le, Fin.isValue, Fin.val_zero, Fin.val_one, Fin.val_two, true_and, and_true, true_implies, false_implies, forall_const, if_true, if_false, ite_true, ite_false, reduceIte, reduceCtorEq, true_or, or_true, and_self, implies_true, not_false_eq_true, not_true_eq_false, Nat.le_refl, Nat.zero_le, and_false, false_and, Nat.reduceAdd, Nat.reduceSub, Nat.reduceLT, Nat.reduceLeDiff, Nat.reduceMul, Nat.reduceEqDiff, Int.reduceAdd, Int.reduceNeg, Int.reduceToNat, Int.reduceLE, Int.reduceNatCast, Int.reduceSub, Int.reduceLT, Int.reduceEq, List.replicate_zero, List.replicate_succ, Int.reduceNatCast', Int32.reduceOfInt, Int32.reduceLT, Int32.reduceLE, Int32.reduceAdd, Int32.reduceSub, Int32.reduceMul, Int32.reduceToInt, Int32.reduceToNatClampNeg]
    simp only [Int32.reduceToNatClampNeg] at hT
    exact ⟨b1, b2, b3, hT⟩

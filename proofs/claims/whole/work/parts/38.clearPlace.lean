def f_cl3 {α : Sort _} (L : cSt → α) (c : cSt) (i : Nat) (w s : Int32) : α := if w &&& 4 = 0 then L c else if ¬ c.2.2.2.2.1.1 = -1 then L (c_sn c (upd c.2.2.1.2.2.2 i (f_mrg (c.2.2.1.2.2.2 i) s c.2.2.2.2.1.2.2.2.1))) else L (c_sn c (upd c.2.2.1.2.2.2 i (f_mrg (c.2.2.1.2.2.2 i) s 255)))
def f_cl2 {α : Sort _} (L : cSt → α) (c : cSt) (i : Nat) (w dp s : Int32) : α := if w &&& 2 = 0 then f_cl3 L c i w s else if c.1.1 = -1 then f_cl3 L (c_de c (upd c.2.2.1.2.2.1 i dp)) i w s else if c.1.2.1 = 0 then f_cl3 L c i w s else f_cl3 L (c_de c (upd c.2.2.1.2.2.1 i dp)) i w s
def f_cl1 {α : Sort _} (L : cSt → α) (c : cSt) (i : Nat) (w col dp s : Int32) : α := if w &&& 1 = 0 then f_cl2 L c i w dp s else f_cl2 L (c_co c (upd c.2.2.1.2.1 i (f_mrg (c.2.2.1.2.1 i) col c.1.2.2.2))) i w dp s
def f_cl (c : cSt) (i : Nat) (w col dp s : Int32) : cSt := f_cl1 (fun c => c) c i w col dp s
theorem f_cl3_L {α : Sort _} (L : cSt → α) (c : cSt) (i : Nat) (w s : Int32) : L (f_cl3 (fun c => c) c i w s) = f_cl3 L c i w s := by
  unfold f_cl3
  split
  · rfl
  · split <;> rfl
theorem f_cl2_L {α : Sort _} (L : cSt → α) (c : cSt) (i : Nat) (w dp s : Int32) : L (f_cl2 (fun c => c) c i w dp s) = f_cl2 L c i w dp s := by
  unfold f_cl2
  split
  · exact f_cl3_L L _ _ _ _
  · split
    · exact f_cl3_L L _ _ _ _
    · split <;> exact f_cl3_L L _ _ _ _
theorem f_cl_L {α : Sort _} (L : cSt → α) (c : cSt) (i : Nat) (w col dp s : Int32) : L (f_cl c i w col dp s) = f_cl1 L c i w col dp s := by
  unfold f_cl f_cl1
  split <;> exact f_cl2_L L _ _ _ _ _
def T_PT_clearPlace : ClassId → ClassId → zT := fun cI _ as h K => match as with
  | [.ref 0, .int i, .int w, .int col, .int dp, .int s] => rdC h (fun c r => h = hC cI c r ∧ vp_in i c.2.2.1.1 ∧ K (.inl none) (hC cI (f_cl c i.toNatClampNeg w col dp s) r))
  | _ => False
def E_PT_clearPlace : ClassId → ClassId → Nat → Nat → Option zEn := fun cI cL kd i => match kd, i with
  | 0, 250 => some (3, none, true, true, 0, 0, T_PT_merged cI cL)
  | _, _ => none
theorem E_PT_clearPlace_k : (∀ cI cL, E_PT_clearPlace cI cL 0 250 = some (3, none, true, true, 0, 0, T_PT_merged cI cL)) := fun _ _ => rfl
set_option maxHeartbeats 4000000 in
set_option maxRecDepth 100000 in
theorem C_PT_clearPlace {l : Launch} (hl : l.stackTraces = false) : zC l y_PT_clearPlace (Cond.code y_PT_clearPlace prog_1_method_17_code 7 none :: wsG) (rmL 6 0 0) zcl false 0 0 T_PT_clearPlace := by
  refine zC_of (G := G_PT) (E := E_PT_clearPlace) (X := zXn) (SL := zSn) (NW := zNn) (CS := zCn) (ctor := false) hl (by decide) rfl rfl rfl G_PT_ok (fun z => by cases z) (fun _ _ z => by cases z) (fun _ _ _ _ z => by cases z) (List.mem_cons_of_mem _ ka_i) (fun _ _ _ z => by cases z) (fun _ z => by cases z) (by
    intro p e s m args below meth c D A cI cL hx hb hml hown hts hK hA hEX kd idx en hE
    unfold E_PT_clearPlace at hE
    split at hE
    · cases hE; exact zRow_S (C_PT_merged hl) rfl (Or.inl ⟨_, _, rfl⟩) hx hb hml hown hts hK hA hEX (hin_c kb_PT_merged) (List.mem_cons_of_mem _ kn_PT) (List.mem_cons_of_mem _ ks_PT_merged) (Or.inl (List.mem_cons_of_mem _ km_PT_250)) (by decide) (by decide) (by decide) rfl rfl
    · cases hE) ?_
  intro cI cL as h K hT
  match as, hT with
  | [.ref 0, .int i, .int w, .int col, .int dp, .int s], hT =>
  replace hT : rdC h (fun c r => h = hC cI c r ∧ vp_in i c.2.2.1.1 ∧ K (.inl none) (hC cI (f_cl c i.toNatClampNeg w col dp s) r)) := hT
  obtain ⟨⟨⟨dt, dw, lg, cb⟩, ⟨rm, fx, fy, fw, fh, ct⟩, ⟨N, co, de, sn⟩, ⟨sa, sb, sd, se⟩, ⟨a0, a1, a2, a3, a4, a5, a6⟩, ⟨b0, b1, b2, b3, b4, b5, b6⟩, ⟨e0, e1, e2, e3, e4, e5, e6⟩, an⟩, r, rfl, hv, hT⟩ := rdC_s hT
  have hT := (f_cl_L (fun c' => K (.inl none) (hC cI c' r)) _ _ _ _ _ _).mp hT
  simp only [f_cl1, f_cl2, f_cl3, zip, Classical.not_not] at hT
  simp only [hC, hR, c_sn, c_de, c_co] at hT
  refine ⟨by simp [Value.category], by simp, fun Jd hc => zw_sound (J := fun _ => none) hc (fun _ _ z => by cases z) 75 0 _ _ _ _ _ _ ?_⟩
  simp (maxSteps := 4000000) only [hv, zlc, zif0, zf3, D_PT_clearPlace_0, D_PT_clearPlace_1, G_PT_k, E_PT_clearPlace_k, T_PT_merged, hC, hR, Classical.not_not, zw_S, zk_iconst, zk_bipush, zk_sipush, zk_ldc, zk_ldc_w, zk_aconst_null, zk_iload_n, zk_iload, zk_aload_n, zk_aload, zk_istore_n, zk_istore, zk_astore_n, zk_astore, zk_iinc, zk_iadd, zk_isub, zk_imul, zk_idiv, zk_iand, zk_ior, zk_ixor, zk_ishl, zk_ishr, zk_iushr, zk_i2l, zk_lcmp, zk_dup, zk_pop, zk_dup_x1, zk_dup2, zk_dup_x2, zk_goto, zk_ifCond, zk_if_icmp, zk_tableswitch, zk_getfield, zk_putfield, zk_iaload, zk_iastore, zk_laload, zk_lastore, zk_arraylength, zk_invokestatic, zk_invokevirtual, zk_invokespecial, zk_new, zk_newarray, zk_ireturn, zk_areturn, zk_return_, zi1_k, zi2_k, zr1_k, zri_k, zrii_k, zril_k, zvr_k, zl2_k, zv1_k, zv2_k, zv3_k, zli_k, zlr_k, zob_k, zai_k, zal_k, zfv_k, zlim_k, zlrm_k, zobm_k, zaim_k, zalm_k, zfvm_k, zgetf_k, zput_k, zcal_k, zrv_n, zrv_s, zswT_n, zswT_c, zgo_k, zcc_eq, zcc_ne, zcc_lt, zcc_ge, zcc_gt, zcc_le, zldj_k, zexc_k, znew_k, zial_k, zct_i, zct_l, zct_r, zct_n, zKK_r, zKK_x, znr_i, znr_0, znr_1, znr_v, znr_a, znr_o, znar_i, znar_r, znar_a, zfit_i, zfit_r, zfit_a, zbc, zlit, eq_self, List.getElem?_cons_zero, List.getElem?_cons_succ, List.set_cons_zero, List.set_cons_succ, List.take_succ_cons, List.take_zero, List.drop_succ_cons, List.drop_zero, List.reverse_cons, List.reverse_nil, List.nil_append, List.cons_append, List.append_nil, List.length_cons, List.length_nil, List.map_cons, List.map_nil, List.sum_cons, List.sum_nil, Option.toList_some, Option.toList_none, Nat.zero_add, Nat.add_zero, Bool.or_false, Bool.false_or, Bool.or_true, Bool.true_or, Bool.not_true, Bool.not_false, ge_iff_le, Fin.isValue, Fin.val_zero, Fin.val_one, Fin.val_two, true_and, and_true, true_implies, false_implies, forall_const, if_true, if_false, ite_true, ite_false, reduceIte, reduceCtorEq, true_or, or_true, and_self, implies_true, not_false_eq_true, not_true_eq_false, Nat.le_refl, Nat.zero_le, and_false, false_and, Nat.reduceAdd, Nat.reduceSub, Nat.reduceLT, Nat.reduceLeDiff, Nat.reduceMul, Nat.reduceEqDiff, Int.reduceAdd, Int.reduceNeg, Int.reduceToNat, Int.reduceLE, Int.reduceNatCast, Int.reduceSub, Int.reduceLT, Int.reduceEq, List.replicate_zero, List.replicate_succ, Int.reduceNatCast', Int32.reduceOfInt, Int32.reduceLT, Int32.reduceLE, Int32.reduceAdd, Int32.reduceSub, Int32.reduceMul, Int32.reduceToInt, Int32.reduceToNatClampNeg]
  exact hT

theorem kk_l : ∀ w ∈ [Cond.arrayClass .long], w ∈ wsG := wsG_all (by decide +kernel)
theorem kk_x : ∀ w ∈ [Cond.instantiable "java/lang/IllegalArgumentException" 6, Cond.instantiable "java/lang/IndexOutOfBoundsException" 6], w ∈ wsG := wsG_all (by decide +kernel)
theorem u_IA_in : ∀ w ∈ u_ws "java/lang/IllegalArgumentException" F_no 0, w ∈ wsG := wsG_all (by decide +kernel)
theorem u_IO_in : ∀ w ∈ u_ws "java/lang/IndexOutOfBoundsException" F_no 0, w ∈ wsG := wsG_all (by decide +kernel)
theorem lw_K {s : State} {args : Array Value} (hts : ∀ w ∈ wsG, w.before args s = true) : ∃ (D : va_G) (cI cL : ClassId), va_K D zcl [(cI, .int), (cL, .long)] s := by
  obtain ⟨c0, i0, k0⟩ := u_known hts u_PT_in (hts _ kt_PT)
  obtain ⟨c1, i1, k1⟩ := u_known hts u_FR_in (hts _ kt_FR)
  obtain ⟨c2, i2, k2⟩ := u_known hts u_SC_in (hts _ kt_SC)
  obtain ⟨c3, i3, k3⟩ := u_known hts u_ST_in (hts _ kt_ST)
  obtain ⟨c4, i4, k4⟩ := u_known hts u_BL_in (hts _ kt_BL)
  obtain ⟨c5, i5, k5⟩ := u_known hts u_MO_in (hts _ kt_MO)
  obtain ⟨c6, i6, k6⟩ := u_known hts u_IA_in (hts _ (kk_x _ List.mem_cons_self))
  obtain ⟨c7, i7, k7⟩ := u_known hts u_IO_in (hts _ (kk_x _ (List.mem_cons_of_mem _ List.mem_cons_self)))
  obtain ⟨cI, kI, mI, a1, a2, a3⟩ := Cond.arrayClass_spec (hts _ ka_i)
  obtain ⟨cL, kL, mL, b1, b2, b3⟩ := Cond.arrayClass_spec (hts _ (kk_l _ List.mem_cons_self))
  refine ⟨(fun n => match n with
    | 0 => c0
    | 1 => c1
    | 2 => c2
    | 3 => c3
    | 4 => c4
    | 5 => c5
    | 6 => c6
    | _ => c7, fun n => match n with
    | 0 => i0
    | 1 => i1
    | 2 => i2
    | 3 => i3
    | 4 => i4
    | 5 => i5
    | 6 => i6
    | _ => i7), cI, cL, fun c q hc => ?_, fun k q hk => ?_⟩
  · have hl : c < 8 := (List.getElem?_eq_some_iff.mp hc).1
    have : c = 0 ∨ c = 1 ∨ c = 2 ∨ c = 3 ∨ c = 4 ∨ c = 5 ∨ c = 6 ∨ c = 7 := by omega
    rcases this with rfl | rfl | rfl | rfl | rfl | rfl | rfl | rfl
    · cases hc; exact k0
    · cases hc; exact k1
    · cases hc; exact k2
    · cases hc; exact k3
    · cases hc; exact k4
    · cases hc; exact k5
    · cases hc; exact k6
    · cases hc; exact k7
  · have hl : k < 2 := (List.getElem?_eq_some_iff.mp hk).1
    have : k = 0 ∨ k = 1 := by omega
    rcases this with rfl | rfl
    · cases hk
      exact ⟨fun n z => ⟨fun k h => (by cases h), kI, a2, mI, a3⟩, a1⟩
    · cases hk
      exact ⟨fun n z => ⟨fun k h => (by cases h), kL, b2, mL, b3⟩, b1⟩
theorem zstrs_ok : ∀ x ∈ zstrs, x.1 = "PlaceTests" ∧ Cond.stringRef x.1 x.2.1 x.2.2 ∈ lw_tbl := fun x hx => by
  have := List.all_eq_true.mp (by decide +kernel : zstrs.all (fun x => decide (x.1 = "PlaceTests") && decide (Cond.stringRef x.1 x.2.1 x.2.2 ∈ lw_tbl)) = true) x hx
  rw [Bool.and_eq_true] at this
  exact ⟨of_decide_eq_true this.1, of_decide_eq_true this.2⟩
theorem lw_EX {s : State} {args : Array Value} (hts : ∀ w ∈ lw_tbl, w.before args s = true) (hgv : (Jvm.Cond.and given_1 narrow_1).before args s = true) {cP : ClassId} (hP : s.vm.findClass "PlaceTests" = some cP) : zEX (fun q : Nat => s.heap.size ≤ q) s := by
  have hs := flat_of_before _ hgv
  refine ⟨vx_Zqof (hts _ (by decide +kernel)) (hts _ (by decide +kernel)) (hs _ (by decide +kernel)) (fun a h q => absurd q (Nat.not_le.mpr h)), vx_Zqof (hts _ (by decide +kernel)) (hts _ (by decide +kernel)) (hs _ (by decide +kernel)) (fun a h q => absurd q (Nat.not_le.mpr h)), fun x hx => ?_, va_Nc.of (hs _ (by decide +kernel))⟩
  obtain ⟨e, hw⟩ := zstrs_ok x hx
  obtain ⟨k, cf, i, a, -, -, -, -, -, h6⟩ := Cond.stringRef_spec (cls := x.1) (cur := cP) (by rw [e]; exact hP) (hts _ hw)
  exact ⟨a, vk_R.of (hts _ hw) h6⟩

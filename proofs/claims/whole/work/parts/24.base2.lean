def CS_PT : Nat → Option Int32 := fun i => match i with
  | 260 => some 16777215
  | _ => none
theorem CS_PT_k : (CS_PT 260 = some 16777215) := rfl
theorem CS_PT_ok {w : Cond} : ∀ i v, CS_PT i = some v → Cond.constant "PlaceTests" i v ∈ w :: wsG := by
  intro i v h
  unfold CS_PT at h
  split at h
  · cases h; exact List.mem_cons_of_mem _ kc_PT_260
  · cases h
def CS_CO : Nat → Option Int32 := fun i => match i with
  | 19 => some 65536
  | 29 => some 32768
  | _ => none
theorem CS_CO_k : (CS_CO 19 = some 65536) ∧ (CS_CO 29 = some 32768) := ⟨rfl, rfl⟩
theorem CS_CO_ok {w : Cond} : ∀ i v, CS_CO i = some v → Cond.constant "PlaceTests$Colour" i v ∈ w :: wsG := by
  intro i v h
  unfold CS_CO at h
  split at h
  · cases h; exact List.mem_cons_of_mem _ kc_CO_19
  · cases h; exact List.mem_cons_of_mem _ kc_CO_29
  · cases h
def CS_MO : Nat → Option Int32 := fun i => match i with
  | 90 => some 16777215
  | 106 => some 65536
  | 107 => some 32768
  | _ => none
theorem CS_MO_k : (CS_MO 90 = some 16777215) ∧ (CS_MO 106 = some 65536) ∧ (CS_MO 107 = some 32768) := ⟨rfl, rfl, rfl⟩
theorem CS_MO_ok {w : Cond} : ∀ i v, CS_MO i = some v → Cond.constant "PlaceTestsModel" i v ∈ w :: wsG := by
  intro i v h
  unfold CS_MO at h
  split at h
  · cases h; exact List.mem_cons_of_mem _ kc_MO_90
  · cases h; exact List.mem_cons_of_mem _ kc_MO_106
  · cases h; exact List.mem_cons_of_mem _ kc_MO_107
  · cases h
def X_PT : Nat → Option (Nat × Nat) := fun i => match i with
  | 64 => some (6, 68)
  | 215 => some (7, 219)
  | _ => none
theorem X_a : ∀ w ∈ Cond.classLink "PlaceTests" 64 "java/lang/IllegalArgumentException" :: Cond.initialized "java/lang/IllegalArgumentException" :: vx_atS "PlaceTests" 68 "java/lang/IllegalArgumentException" ["java/lang/RuntimeException", "java/lang/Exception"], w ∈ wsG := wsG_all (by decide +kernel)
theorem X_b : ∀ w ∈ Cond.classLink "PlaceTests" 215 "java/lang/IndexOutOfBoundsException" :: Cond.initialized "java/lang/IndexOutOfBoundsException" :: vx_atS "PlaceTests" 219 "java/lang/IndexOutOfBoundsException" ["java/lang/RuntimeException", "java/lang/Exception"], w ∈ wsG := wsG_all (by decide +kernel)
theorem X_a2 : ∀ w ∈ Cond.classLink "PlaceTests" 64 "java/lang/IllegalArgumentException" :: Cond.initialized "java/lang/IllegalArgumentException" :: vx_atS "PlaceTests" 68 "java/lang/IllegalArgumentException" ["java/lang/RuntimeException", "java/lang/Exception"], vx_ot w = true := List.all_eq_true.mp (by decide +kernel)
theorem X_b2 : ∀ w ∈ Cond.classLink "PlaceTests" 215 "java/lang/IndexOutOfBoundsException" :: Cond.initialized "java/lang/IndexOutOfBoundsException" :: vx_atS "PlaceTests" 219 "java/lang/IndexOutOfBoundsException" ["java/lang/RuntimeException", "java/lang/Exception"], vx_ot w = true := List.all_eq_true.mp (by decide +kernel)
theorem X_PT_ok {w : Cond} : ∀ i ci ic, X_PT i = some (ci, ic) → zXok (w :: wsG) zcl "PlaceTests" i ci ic := by
  intro i ci ic h
  unfold X_PT at h
  split at h
  · cases h
    exact ⟨"java/lang/IllegalArgumentException", ["java/lang/RuntimeException", "java/lang/Exception"], F_no, rfl, by decide, by decide, by decide, List.mem_cons_of_mem _ (X_a _ List.mem_cons_self), List.mem_cons_of_mem _ (X_a _ (List.mem_cons_of_mem _ List.mem_cons_self)), fun w hw => List.mem_cons_of_mem _ (X_a w (List.mem_cons_of_mem _ (List.mem_cons_of_mem _ hw))), X_a2⟩
  · cases h
    exact ⟨"java/lang/IndexOutOfBoundsException", ["java/lang/RuntimeException", "java/lang/Exception"], F_no, rfl, by decide, by decide, by decide, List.mem_cons_of_mem _ (X_b _ List.mem_cons_self), List.mem_cons_of_mem _ (X_b _ (List.mem_cons_of_mem _ List.mem_cons_self)), fun w hw => List.mem_cons_of_mem _ (X_b w (List.mem_cons_of_mem _ (List.mem_cons_of_mem _ hw))), X_b2⟩
  · cases h
def SL_PT (j : Nat) : Bool := zstrs.any (fun x => x.1 == "PlaceTests" && x.2.1 == j)
theorem SL_PT_ok : ∀ j, SL_PT j = true → zSok "PlaceTests" j := by
  intro j h
  obtain ⟨x, hx, h⟩ := List.any_eq_true.mp h
  rw [Bool.and_eq_true] at h
  have e1 : x.1 = "PlaceTests" := eq_of_beq h.1
  have e2 : x.2.1 = j := eq_of_beq h.2
  obtain ⟨a, b, c⟩ := x
  subst e1
  subst e2
  exact ⟨c, hx⟩
def N_PT : Nat → Option (Nat × Nat × List Value) := fun i => match i with
  | 7 => some (1, 9, [.int 0, .null, .null, .null, .int 0, .int 0, .int 0, .int 0, .int 0])
  | 18 => some (2, 4, [.int 0, .int 0, .int 0, .int 0])
  | 33 => some (3, 7, [.int 0, .int 0, .int 0, .int 0, .int 0, .int 0, .int 0])
  | 43 => some (4, 7, [.int 0, .int 0, .int 0, .int 0, .int 0, .int 0, .int 0])
  | _ => none
theorem N_PT_ok {w : Cond} : ∀ idx ci n fs, N_PT idx = some (ci, n, fs) → zNok (w :: wsG) zcl "PlaceTests" idx ci n fs := by
  intro idx ci n fs h
  unfold N_PT at h
  split at h
  · cases h; exact ⟨"PlaceTests$Frame", F_FR, t_FR, rfl, fun w hw => List.mem_cons_of_mem _ (u_FR_in w hw), t_FR_ok, List.mem_cons_of_mem _ kk_PT_7, List.mem_cons_of_mem _ kt_FR, List.mem_cons_of_mem _ kn_FR, by decide +kernel, by simp⟩
  · cases h; exact ⟨"PlaceTests$Scissors", F_SC, t_SC, rfl, fun w hw => List.mem_cons_of_mem _ (u_SC_in w hw), t_SC_ok, List.mem_cons_of_mem _ kk_PT_18, List.mem_cons_of_mem _ kt_SC, List.mem_cons_of_mem _ kn_SC, by decide +kernel, by simp⟩
  · cases h; exact ⟨"PlaceTests$StencilRule", F_ST, t_ST, rfl, fun w hw => List.mem_cons_of_mem _ (u_ST_in w hw), t_ST_ok, List.mem_cons_of_mem _ kk_PT_33, List.mem_cons_of_mem _ kt_ST, List.mem_cons_of_mem _ kn_ST, by decide +kernel, by simp⟩
  · cases h; exact ⟨"PlaceTests$Blending", F_BL, t_BL, rfl, fun w hw => List.mem_cons_of_mem _ (u_BL_in w hw), t_BL_ok, List.mem_cons_of_mem _ kk_PT_43, List.mem_cons_of_mem _ kt_BL, List.mem_cons_of_mem _ kn_BL, by decide +kernel, by simp⟩
  · cases h
theorem N_PT_k : (N_PT 7 = some (1, 9, [.int 0, .null, .null, .null, .int 0, .int 0, .int 0, .int 0, .int 0])) ∧ (N_PT 18 = some (2, 4, [.int 0, .int 0, .int 0, .int 0])) ∧ (N_PT 33 = some (3, 7, [.int 0, .int 0, .int 0, .int 0, .int 0, .int 0, .int 0])) ∧ (N_PT 43 = some (4, 7, [.int 0, .int 0, .int 0, .int 0, .int 0, .int 0, .int 0])) ∧ (X_PT 64 = some (6, 68)) ∧ (X_PT 215 = some (7, 219)) ∧ (X_PT 7 = none) ∧ (SL_PT 66 = true) ∧ (SL_PT 71 = true) ∧ (SL_PT 92 = true) ∧ (SL_PT 98 = true) ∧ (SL_PT 110 = true) ∧ (SL_PT 115 = true) ∧ (SL_PT 141 = true) ∧ (SL_PT 143 = true) ∧ (SL_PT 163 = true) ∧ (SL_PT 165 = true) ∧ (SL_PT 173 = true) ∧ (SL_PT 178 = true) ∧ (SL_PT 180 = true) ∧ (SL_PT 213 = true) ∧ (SL_PT 217 = true) ∧ (SL_PT 224 = true) ∧ (∀ i, zXn i = none) := ⟨rfl, rfl, rfl, rfl, rfl, rfl, rfl, by decide +kernel, by decide +kernel, by decide +kernel, by decide +kernel, by decide +kernel, by decide +kernel, by decide +kernel, by decide +kernel, by decide +kernel, by decide +kernel, by decide +kernel, by decide +kernel, by decide +kernel, by decide +kernel, by decide +kernel, by decide +kernel, fun _ => rfl⟩
def N_LA : Nat → Option (Nat × Nat × List Value) := fun i => match i with
  | 8 => some (0, 10, [.null, .null, .int 0, .int 0, .null, .null, .null, .int 0, .int 0, .null])
  | 56 => some (5, 22, [.int 0, .int 0, .int 0, .int 0, .int 0, .null, .null, .null, .int 0, .null, .int 0, .int 0, .null, .null, .int 0, .int 0, .null, .int 0, .int 0, .null, .null, .null])
  | _ => none
theorem N_LA_ok {w : Cond} : ∀ idx ci n fs, N_LA idx = some (ci, n, fs) → zNok (w :: wsG) zcl "PlaceTestsLaw" idx ci n fs := by
  intro idx ci n fs h
  unfold N_LA at h
  split at h
  · cases h; exact ⟨"PlaceTests", F_PT, t_PT, rfl, fun w hw => List.mem_cons_of_mem _ (u_PT_in w hw), t_PT_ok, List.mem_cons_of_mem _ kk_LA_8, List.mem_cons_of_mem _ kt_PT, List.mem_cons_of_mem _ kn_PT, by decide +kernel, by simp⟩
  · cases h; exact ⟨"PlaceTestsModel", F_MO, t_MO, rfl, fun w hw => List.mem_cons_of_mem _ (u_MO_in w hw), t_MO_ok, List.mem_cons_of_mem _ kk_LA_56, List.mem_cons_of_mem _ kt_MO, List.mem_cons_of_mem _ kn_MO, by decide +kernel, by simp⟩
  · cases h
theorem N_LA_k : (N_LA 8 = some (0, 10, [.null, .null, .int 0, .int 0, .null, .null, .null, .int 0, .int 0, .null])) ∧ (N_LA 56 = some (5, 22, [.int 0, .int 0, .int 0, .int 0, .int 0, .null, .null, .null, .int 0, .null, .int 0, .int 0, .null, .null, .int 0, .int 0, .null, .int 0, .int 0, .null, .null, .null])) ∧ (∀ i, zXn i = none) := ⟨rfl, rfl, fun _ => rfl⟩

theorem hin_c {a b : Cond} (h : a ∈ wsG) : ∀ w ∈ a :: wsG, w ∈ b :: wsG ∧ zgood w = true := fun w hw => by
  rcases List.mem_cons.mp hw with rfl | hw
  · exact ⟨List.mem_cons_of_mem _ h, wsG_good _ h⟩
  · exact ⟨List.mem_cons_of_mem _ hw, wsG_good _ hw⟩
def G_PT : Nat → Option (Nat × Nat × FieldType × Bool) := fun i => match i with
  | 12 => some (0, 0, (.object "PlaceTests$Frame"), false)
  | 21 => some (0, 1, (.object "PlaceTests$Scissors"), true)
  | 25 => some (0, 2, .int, false)
  | 29 => some (0, 3, .boolean, false)
  | 36 => some (0, 4, (.object "PlaceTests$StencilRule"), true)
  | 40 => some (0, 5, (.object "PlaceTests$StencilRule"), true)
  | 46 => some (0, 6, (.object "PlaceTests$Blending"), true)
  | 50 => some (0, 7, .int, false)
  | 53 => some (0, 8, .int, false)
  | 56 => some (0, 9, (.array .int), true)
  | 73 => some (1, 0, .int, true)
  | 80 => some (2, 0, .int, false)
  | 83 => some (2, 1, .int, false)
  | 86 => some (2, 2, .int, false)
  | 89 => some (2, 3, .int, false)
  | 104 => some (3, 0, .int, false)
  | 117 => some (3, 1, .int, false)
  | 120 => some (3, 2, .int, false)
  | 123 => some (3, 3, .int, false)
  | 126 => some (3, 4, .int, false)
  | 129 => some (3, 5, .int, false)
  | 132 => some (3, 6, .int, false)
  | 135 => some (4, 4, .int, false)
  | 145 => some (4, 0, .int, false)
  | 148 => some (4, 1, .int, false)
  | 151 => some (4, 2, .int, false)
  | 154 => some (4, 3, .int, false)
  | 157 => some (4, 5, .int, false)
  | 160 => some (4, 6, .int, false)
  | 182 => some (1, 5, .int, false)
  | 183 => some (1, 7, .int, false)
  | 186 => some (1, 4, .int, false)
  | 187 => some (1, 6, .int, false)
  | 226 => some (1, 8, .int, false)
  | 229 => some (1, 3, (.array .int), true)
  | 238 => some (1, 2, (.array .int), true)
  | 244 => some (1, 1, (.array .int), true)
  | _ => none
theorem G_PT_k : (G_PT 12 = some (0, 0, (.object "PlaceTests$Frame"), false)) ∧ (G_PT 21 = some (0, 1, (.object "PlaceTests$Scissors"), true)) ∧ (G_PT 25 = some (0, 2, .int, false)) ∧ (G_PT 29 = some (0, 3, .boolean, false)) ∧ (G_PT 36 = some (0, 4, (.object "PlaceTests$StencilRule"), true)) ∧ (G_PT 40 = some (0, 5, (.object "PlaceTests$StencilRule"), true)) ∧ (G_PT 46 = some (0, 6, (.object "PlaceTests$Blending"), true)) ∧ (G_PT 50 = some (0, 7, .int, false)) ∧ (G_PT 53 = some (0, 8, .int, false)) ∧ (G_PT 56 = some (0, 9, (.array .int), true)) ∧ (G_PT 73 = some (1, 0, .int, true)) ∧ (G_PT 80 = some (2, 0, .int, false)) ∧ (G_PT 83 = some (2, 1, .int, false)) ∧ (G_PT 86 = some (2, 2, .int, false)) ∧ (G_PT 89 = some (2, 3, .int, false)) ∧ (G_PT 104 = some (3, 0, .int, false)) ∧ (G_PT 117 = some (3, 1, .int, false)) ∧ (G_PT 120 = some (3, 2, .int, false)) ∧ (G_PT 123 = some (3, 3, .int, false)) ∧ (G_PT 126 = some (3, 4, .int, false)) ∧ (G_PT 129 = some (3, 5, .int, false)) ∧ (G_PT 132 = some (3, 6, .int, false)) ∧ (G_PT 135 = some (4, 4, .int, false)) ∧ (G_PT 145 = some (4, 0, .int, false)) ∧ (G_PT 148 = some (4, 1, .int, false)) ∧ (G_PT 151 = some (4, 2, .int, false)) ∧ (G_PT 154 = some (4, 3, .int, false)) ∧ (G_PT 157 = some (4, 5, .int, false)) ∧ (G_PT 160 = some (4, 6, .int, false)) ∧ (G_PT 182 = some (1, 5, .int, false)) ∧ (G_PT 183 = some (1, 7, .int, false)) ∧ (G_PT 186 = some (1, 4, .int, false)) ∧ (G_PT 187 = some (1, 6, .int, false)) ∧ (G_PT 226 = some (1, 8, .int, false)) ∧ (G_PT 229 = some (1, 3, (.array .int), true)) ∧ (G_PT 238 = some (1, 2, (.array .int), true)) ∧ (G_PT 244 = some (1, 1, (.array .int), true)) := ⟨rfl, rfl, rfl, rfl, rfl, rfl, rfl, rfl, rfl, rfl, rfl, rfl, rfl, rfl, rfl, rfl, rfl, rfl, rfl, rfl, rfl, rfl, rfl, rfl, rfl, rfl, rfl, rfl, rfl, rfl, rfl, rfl, rfl, rfl, rfl, rfl, rfl⟩
theorem G_PT_ok {w : Cond} : ∀ idx ci kf ty fin, G_PT idx = some (ci, kf, ty, fin) → zFok (w :: wsG) zcl "PlaceTests" false idx ci kf ty fin := by
  intro idx ci kf ty fin h
  unfold G_PT at h
  split at h
  · cases h; exact ⟨"PlaceTests", F_PT, 10, t_PT, rfl, by decide, fun w hw => List.mem_cons_of_mem _ (u_PT_in w hw), t_PT_ok, rfl, n_PT, rfl, Or.inl ⟨List.mem_cons_of_mem _ kf_PT_12, fun _ => rfl⟩⟩
  · cases h; exact ⟨"PlaceTests", F_PT, 10, t_PT, rfl, by decide, fun w hw => List.mem_cons_of_mem _ (u_PT_in w hw), t_PT_ok, rfl, n_PT, rfl, Or.inl ⟨List.mem_cons_of_mem _ kf_PT_21, fun _ => rfl⟩⟩
  · cases h; exact ⟨"PlaceTests", F_PT, 10, t_PT, rfl, by decide, fun w hw => List.mem_cons_of_mem _ (u_PT_in w hw), t_PT_ok, rfl, n_PT, rfl, Or.inl ⟨List.mem_cons_of_mem _ kf_PT_25, fun _ => rfl⟩⟩
  · cases h; exact ⟨"PlaceTests", F_PT, 10, t_PT, rfl, by decide, fun w hw => List.mem_cons_of_mem _ (u_PT_in w hw), t_PT_ok, rfl, n_PT, rfl, Or.inl ⟨List.mem_cons_of_mem _ kf_PT_29, fun _ => rfl⟩⟩
  · cases h; exact ⟨"PlaceTests", F_PT, 10, t_PT, rfl, by decide, fun w hw => List.mem_cons_of_mem _ (u_PT_in w hw), t_PT_ok, rfl, n_PT, rfl, Or.inl ⟨List.mem_cons_of_mem _ kf_PT_36, fun _ => rfl⟩⟩
  · cases h; exact ⟨"PlaceTests", F_PT, 10, t_PT, rfl, by decide, fun w hw => List.mem_cons_of_mem _ (u_PT_in w hw), t_PT_ok, rfl, n_PT, rfl, Or.inl ⟨List.mem_cons_of_mem _ kf_PT_40, fun _ => rfl⟩⟩
  · cases h; exact ⟨"PlaceTests", F_PT, 10, t_PT, rfl, by decide, fun w hw => List.mem_cons_of_mem _ (u_PT_in w hw), t_PT_ok, rfl, n_PT, rfl, Or.inl ⟨List.mem_cons_of_mem _ kf_PT_46, fun _ => rfl⟩⟩
  · cases h; exact ⟨"PlaceTests", F_PT, 10, t_PT, rfl, by decide, fun w hw => List.mem_cons_of_mem _ (u_PT_in w hw), t_PT_ok, rfl, n_PT, rfl, Or.inl ⟨List.mem_cons_of_mem _ kf_PT_50, fun _ => rfl⟩⟩
  · cases h; exact ⟨"PlaceTests", F_PT, 10, t_PT, rfl, by decide, fun w hw => List.mem_cons_of_mem _ (u_PT_in w hw), t_PT_ok, rfl, n_PT, rfl, Or.inl ⟨List.mem_cons_of_mem _ kf_PT_53, fun _ => rfl⟩⟩
  · cases h; exact ⟨"PlaceTests", F_PT, 10, t_PT, rfl, by decide, fun w hw => List.mem_cons_of_mem _ (u_PT_in w hw), t_PT_ok, rfl, n_PT, rfl, Or.inl ⟨List.mem_cons_of_mem _ kf_PT_56, fun _ => rfl⟩⟩
  · cases h; exact ⟨"PlaceTests$Frame", F_FR, 9, t_FR, rfl, by decide, fun w hw => List.mem_cons_of_mem _ (u_FR_in w hw), t_FR_ok, rfl, n_FR, rfl, Or.inr ⟨fun z => by simp at z, "PlaceTests", List.mem_cons_of_mem _ kf_PT_73⟩⟩
  · cases h; exact ⟨"PlaceTests$Scissors", F_SC, 4, t_SC, rfl, by decide, fun w hw => List.mem_cons_of_mem _ (u_SC_in w hw), t_SC_ok, rfl, n_SC, rfl, Or.inr ⟨fun z => by simp at z, "PlaceTests", List.mem_cons_of_mem _ kf_PT_80⟩⟩
  · cases h; exact ⟨"PlaceTests$Scissors", F_SC, 4, t_SC, rfl, by decide, fun w hw => List.mem_cons_of_mem _ (u_SC_in w hw), t_SC_ok, rfl, n_SC, rfl, Or.inr ⟨fun z => by simp at z, "PlaceTests", List.mem_cons_of_mem _ kf_PT_83⟩⟩
  · cases h; exact ⟨"PlaceTests$Scissors", F_SC, 4, t_SC, rfl, by decide, fun w hw => List.mem_cons_of_mem _ (u_SC_in w hw), t_SC_ok, rfl, n_SC, rfl, Or.inr ⟨fun z => by simp at z, "PlaceTests", List.mem_cons_of_mem _ kf_PT_86⟩⟩
  · cases h; exact ⟨"PlaceTests$Scissors", F_SC, 4, t_SC, rfl, by decide, fun w hw => List.mem_cons_of_mem _ (u_SC_in w hw), t_SC_ok, rfl, n_SC, rfl, Or.inr ⟨fun z => by simp at z, "PlaceTests", List.mem_cons_of_mem _ kf_PT_89⟩⟩
  · cases h; exact ⟨"PlaceTests$StencilRule", F_ST, 7, t_ST, rfl, by decide, fun w hw => List.mem_cons_of_mem _ (u_ST_in w hw), t_ST_ok, rfl, n_ST, rfl, Or.inr ⟨fun z => by simp at z, "PlaceTests", List.mem_cons_of_mem _ kf_PT_104⟩⟩
  · cases h; exact ⟨"PlaceTests$StencilRule", F_ST, 7, t_ST, rfl, by decide, fun w hw => List.mem_cons_of_mem _ (u_ST_in w hw), t_ST_ok, rfl, n_ST, rfl, Or.inr ⟨fun z => by simp at z, "PlaceTests", List.mem_cons_of_mem _ kf_PT_117⟩⟩
  · cases h; exact ⟨"PlaceTests$StencilRule", F_ST, 7, t_ST, rfl, by decide, fun w hw => List.mem_cons_of_mem _ (u_ST_in w hw), t_ST_ok, rfl, n_ST, rfl, Or.inr ⟨fun z => by simp at z, "PlaceTests", List.mem_cons_of_mem _ kf_PT_120⟩⟩
  · cases h; exact ⟨"PlaceTests$StencilRule", F_ST, 7, t_ST, rfl, by decide, fun w hw => List.mem_cons_of_mem _ (u_ST_in w hw), t_ST_ok, rfl, n_ST, rfl, Or.inr ⟨fun z => by simp at z, "PlaceTests", List.mem_cons_of_mem _ kf_PT_123⟩⟩
  · cases h; exact ⟨"PlaceTests$StencilRule", F_ST, 7, t_ST, rfl, by decide, fun w hw => List.mem_cons_of_mem _ (u_ST_in w hw), t_ST_ok, rfl, n_ST, rfl, Or.inr ⟨fun z => by simp at z, "PlaceTests", List.mem_cons_of_mem _ kf_PT_126⟩⟩
  · cases h; exact ⟨"PlaceTests$StencilRule", F_ST, 7, t_ST, rfl, by decide, fun w hw => List.mem_cons_of_mem _ (u_ST_in w hw), t_ST_ok, rfl, n_ST, rfl, Or.inr ⟨fun z => by simp at z, "PlaceTests", List.mem_cons_of_mem _ kf_PT_129⟩⟩
  · cases h; exact ⟨"PlaceTests$StencilRule", F_ST, 7, t_ST, rfl, by decide, fun w hw => List.mem_cons_of_mem _ (u_ST_in w hw), t_ST_ok, rfl, n_ST, rfl, Or.inr ⟨fun z => by simp at z, "PlaceTests", List.mem_cons_of_mem _ kf_PT_132⟩⟩
  · cases h; exact ⟨"PlaceTests$Blending", F_BL, 7, t_BL, rfl, by decide, fun w hw => List.mem_cons_of_mem _ (u_BL_in w hw), t_BL_ok, rfl, n_BL, rfl, Or.inr ⟨fun z => by simp at z, "PlaceTests", List.mem_cons_of_mem _ kf_PT_135⟩⟩
  · cases h; exact ⟨"PlaceTests$Blending", F_BL, 7, t_BL, rfl, by decide, fun w hw => List.mem_cons_of_mem _ (u_BL_in w hw), t_BL_ok, rfl, n_BL, rfl, Or.inr ⟨fun z => by simp at z, "PlaceTests", List.mem_cons_of_mem _ kf_PT_145⟩⟩
  · cases h; exact ⟨"PlaceTests$Blending", F_BL, 7, t_BL, rfl, by decide, fun w hw => List.mem_cons_of_mem _ (u_BL_in w hw), t_BL_ok, rfl, n_BL, rfl, Or.inr ⟨fun z => by simp at z, "PlaceTests", List.mem_cons_of_mem _ kf_PT_148⟩⟩
  · cases h; exact ⟨"PlaceTests$Blending", F_BL, 7, t_BL, rfl, by decide, fun w hw => List.mem_cons_of_mem _ (u_BL_in w hw), t_BL_ok, rfl, n_BL, rfl, Or.inr ⟨fun z => by simp at z, "PlaceTests", List.mem_cons_of_mem _ kf_PT_151⟩⟩
  · cases h; exact ⟨"PlaceTests$Blending", F_BL, 7, t_BL, rfl, by decide, fun w hw => List.mem_cons_of_mem _ (u_BL_in w hw), t_BL_ok, rfl, n_BL, rfl, Or.inr ⟨fun z => by simp at z, "PlaceTests", List.mem_cons_of_mem _ kf_PT_154⟩⟩
  · cases h; exact ⟨"PlaceTests$Blending", F_BL, 7, t_BL, rfl, by decide, fun w hw => List.mem_cons_of_mem _ (u_BL_in w hw), t_BL_ok, rfl, n_BL, rfl, Or.inr ⟨fun z => by simp at z, "PlaceTests", List.mem_cons_of_mem _ kf_PT_157⟩⟩
  · cases h; exact ⟨"PlaceTests$Blending", F_BL, 7, t_BL, rfl, by decide, fun w hw => List.mem_cons_of_mem _ (u_BL_in w hw), t_BL_ok, rfl, n_BL, rfl, Or.inr ⟨fun z => by simp at z, "PlaceTests", List.mem_cons_of_mem _ kf_PT_160⟩⟩
  · cases h; exact ⟨"PlaceTests$Frame", F_FR, 9, t_FR, rfl, by decide, fun w hw => List.mem_cons_of_mem _ (u_FR_in w hw), t_FR_ok, rfl, n_FR, rfl, Or.inr ⟨fun z => by simp at z, "PlaceTests", List.mem_cons_of_mem _ kf_PT_182⟩⟩
  · cases h; exact ⟨"PlaceTests$Frame", F_FR, 9, t_FR, rfl, by decide, fun w hw => List.mem_cons_of_mem _ (u_FR_in w hw), t_FR_ok, rfl, n_FR, rfl, Or.inr ⟨fun z => by simp at z, "PlaceTests", List.mem_cons_of_mem _ kf_PT_183⟩⟩
  · cases h; exact ⟨"PlaceTests$Frame", F_FR, 9, t_FR, rfl, by decide, fun w hw => List.mem_cons_of_mem _ (u_FR_in w hw), t_FR_ok, rfl, n_FR, rfl, Or.inr ⟨fun z => by simp at z, "PlaceTests", List.mem_cons_of_mem _ kf_PT_186⟩⟩
  · cases h; exact ⟨"PlaceTests$Frame", F_FR, 9, t_FR, rfl, by decide, fun w hw => List.mem_cons_of_mem _ (u_FR_in w hw), t_FR_ok, rfl, n_FR, rfl, Or.inr ⟨fun z => by simp at z, "PlaceTests", List.mem_cons_of_mem _ kf_PT_187⟩⟩
  · cases h; exact ⟨"PlaceTests$Frame", F_FR, 9, t_FR, rfl, by decide, fun w hw => List.mem_cons_of_mem _ (u_FR_in w hw), t_FR_ok, rfl, n_FR, rfl, Or.inr ⟨fun z => by simp at z, "PlaceTests", List.mem_cons_of_mem _ kf_PT_226⟩⟩
  · cases h; exact ⟨"PlaceTests$Frame", F_FR, 9, t_FR, rfl, by decide, fun w hw => List.mem_cons_of_mem _ (u_FR_in w hw), t_FR_ok, rfl, n_FR, rfl, Or.inr ⟨fun z => by simp at z, "PlaceTests", List.mem_cons_of_mem _ kf_PT_229⟩⟩
  · cases h; exact ⟨"PlaceTests$Frame", F_FR, 9, t_FR, rfl, by decide, fun w hw => List.mem_cons_of_mem _ (u_FR_in w hw), t_FR_ok, rfl, n_FR, rfl, Or.inr ⟨fun z => by simp at z, "PlaceTests", List.mem_cons_of_mem _ kf_PT_238⟩⟩
  · cases h; exact ⟨"PlaceTests$Frame", F_FR, 9, t_FR, rfl, by decide, fun w hw => List.mem_cons_of_mem _ (u_FR_in w hw), t_FR_ok, rfl, n_FR, rfl, Or.inr ⟨fun z => by simp at z, "PlaceTests", List.mem_cons_of_mem _ kf_PT_244⟩⟩
  · cases h
def G_PT_c : Nat → Option (Nat × Nat × FieldType × Bool) := fun i => match i with
  | 12 => some (0, 0, (.object "PlaceTests$Frame"), false)
  | 21 => some (0, 1, (.object "PlaceTests$Scissors"), true)
  | 25 => some (0, 2, .int, false)
  | 29 => some (0, 3, .boolean, false)
  | 36 => some (0, 4, (.object "PlaceTests$StencilRule"), true)
  | 40 => some (0, 5, (.object "PlaceTests$StencilRule"), true)
  | 46 => some (0, 6, (.object "PlaceTests$Blending"), true)
  | 50 => some (0, 7, .int, false)
  | 53 => some (0, 8, .int, false)
  | 56 => some (0, 9, (.array .int), true)
  | _ => none
theorem G_PT_c_k : (G_PT_c 12 = some (0, 0, (.object "PlaceTests$Frame"), false)) ∧ (G_PT_c 21 = some (0, 1, (.object "PlaceTests$Scissors"), true)) ∧ (G_PT_c 25 = some (0, 2, .int, false)) ∧ (G_PT_c 29 = some (0, 3, .boolean, false)) ∧ (G_PT_c 36 = some (0, 4, (.object "PlaceTests$StencilRule"), true)) ∧ (G_PT_c 40 = some (0, 5, (.object "PlaceTests$StencilRule"), true)) ∧ (G_PT_c 46 = some (0, 6, (.object "PlaceTests$Blending"), true)) ∧ (G_PT_c 50 = some (0, 7, .int, false)) ∧ (G_PT_c 53 = some (0, 8, .int, false)) ∧ (G_PT_c 56 = some (0, 9, (.array .int), true)) := ⟨rfl, rfl, rfl, rfl, rfl, rfl, rfl, rfl, rfl, rfl⟩
theorem G_PT_c_ok {w : Cond} : ∀ idx ci kf ty fin, G_PT_c idx = some (ci, kf, ty, fin) → zFok (w :: wsG) zcl "PlaceTests" true idx ci kf ty fin := by
  intro idx ci kf ty fin h
  unfold G_PT_c at h
  split at h
  · cases h; exact ⟨"PlaceTests", F_PT, 10, t_PT, rfl, by decide, fun w hw => List.mem_cons_of_mem _ (u_PT_in w hw), t_PT_ok, rfl, n_PT, rfl, Or.inl ⟨List.mem_cons_of_mem _ kf_PT_12, fun _ => rfl⟩⟩
  · cases h; exact ⟨"PlaceTests", F_PT, 10, t_PT, rfl, by decide, fun w hw => List.mem_cons_of_mem _ (u_PT_in w hw), t_PT_ok, rfl, n_PT, rfl, Or.inl ⟨List.mem_cons_of_mem _ kf_PT_21, fun _ => rfl⟩⟩
  · cases h; exact ⟨"PlaceTests", F_PT, 10, t_PT, rfl, by decide, fun w hw => List.mem_cons_of_mem _ (u_PT_in w hw), t_PT_ok, rfl, n_PT, rfl, Or.inl ⟨List.mem_cons_of_mem _ kf_PT_25, fun _ => rfl⟩⟩
  · cases h; exact ⟨"PlaceTests", F_PT, 10, t_PT, rfl, by decide, fun w hw => List.mem_cons_of_mem _ (u_PT_in w hw), t_PT_ok, rfl, n_PT, rfl, Or.inl ⟨List.mem_cons_of_mem _ kf_PT_29, fun _ => rfl⟩⟩
  · cases h; exact ⟨"PlaceTests", F_PT, 10, t_PT, rfl, by decide, fun w hw => List.mem_cons_of_mem _ (u_PT_in w hw), t_PT_ok, rfl, n_PT, rfl, Or.inl ⟨List.mem_cons_of_mem _ kf_PT_36, fun _ => rfl⟩⟩
  · cases h; exact ⟨"PlaceTests", F_PT, 10, t_PT, rfl, by decide, fun w hw => List.mem_cons_of_mem _ (u_PT_in w hw), t_PT_ok, rfl, n_PT, rfl, Or.inl ⟨List.mem_cons_of_mem _ kf_PT_40, fun _ => rfl⟩⟩
  · cases h; exact ⟨"PlaceTests", F_PT, 10, t_PT, rfl, by decide, fun w hw => List.mem_cons_of_mem _ (u_PT_in w hw), t_PT_ok, rfl, n_PT, rfl, Or.inl ⟨List.mem_cons_of_mem _ kf_PT_46, fun _ => rfl⟩⟩
  · cases h; exact ⟨"PlaceTests", F_PT, 10, t_PT, rfl, by decide, fun w hw => List.mem_cons_of_mem _ (u_PT_in w hw), t_PT_ok, rfl, n_PT, rfl, Or.inl ⟨List.mem_cons_of_mem _ kf_PT_50, fun _ => rfl⟩⟩
  · cases h; exact ⟨"PlaceTests", F_PT, 10, t_PT, rfl, by decide, fun w hw => List.mem_cons_of_mem _ (u_PT_in w hw), t_PT_ok, rfl, n_PT, rfl, Or.inl ⟨List.mem_cons_of_mem _ kf_PT_53, fun _ => rfl⟩⟩
  · cases h; exact ⟨"PlaceTests", F_PT, 10, t_PT, rfl, by decide, fun w hw => List.mem_cons_of_mem _ (u_PT_in w hw), t_PT_ok, rfl, n_PT, rfl, Or.inl ⟨List.mem_cons_of_mem _ kf_PT_56, fun _ => rfl⟩⟩
  · cases h
def G_FR : Nat → Option (Nat × Nat × FieldType × Bool) := fun i => match i with
  | 20 => some (1, 0, .int, true)
  | 24 => some (1, 1, (.array .int), true)
  | 28 => some (1, 2, (.array .int), true)
  | 31 => some (1, 3, (.array .int), true)
  | 34 => some (1, 4, .int, false)
  | 37 => some (1, 5, .int, false)
  | 40 => some (1, 6, .int, false)
  | 43 => some (1, 7, .int, false)
  | 46 => some (1, 8, .int, false)
  | _ => none
theorem G_FR_k : (G_FR 20 = some (1, 0, .int, true)) ∧ (G_FR 24 = some (1, 1, (.array .int), true)) ∧ (G_FR 28 = some (1, 2, (.array .int), true)) ∧ (G_FR 31 = some (1, 3, (.array .int), true)) ∧ (G_FR 34 = some (1, 4, .int, false)) ∧ (G_FR 37 = some (1, 5, .int, false)) ∧ (G_FR 40 = some (1, 6, .int, false)) ∧ (G_FR 43 = some (1, 7, .int, false)) ∧ (G_FR 46 = some (1, 8, .int, false)) := ⟨rfl, rfl, rfl, rfl, rfl, rfl, rfl, rfl, rfl⟩
theorem G_FR_ok {w : Cond} : ∀ idx ci kf ty fin, G_FR idx = some (ci, kf, ty, fin) → zFok (w :: wsG) zcl "PlaceTests$Frame" false idx ci kf ty fin := by
  intro idx ci kf ty fin h
  unfold G_FR at h
  split at h
  · cases h; exact ⟨"PlaceTests$Frame", F_FR, 9, t_FR, rfl, by decide, fun w hw => List.mem_cons_of_mem _ (u_FR_in w hw), t_FR_ok, rfl, n_FR, rfl, Or.inl ⟨List.mem_cons_of_mem _ kf_FR_20, fun _ => rfl⟩⟩
  · cases h; exact ⟨"PlaceTests$Frame", F_FR, 9, t_FR, rfl, by decide, fun w hw => List.mem_cons_of_mem _ (u_FR_in w hw), t_FR_ok, rfl, n_FR, rfl, Or.inl ⟨List.mem_cons_of_mem _ kf_FR_24, fun _ => rfl⟩⟩
  · cases h; exact ⟨"PlaceTests$Frame", F_FR, 9, t_FR, rfl, by decide, fun w hw => List.mem_cons_of_mem _ (u_FR_in w hw), t_FR_ok, rfl, n_FR, rfl, Or.inl ⟨List.mem_cons_of_mem _ kf_FR_28, fun _ => rfl⟩⟩
  · cases h; exact ⟨"PlaceTests$Frame", F_FR, 9, t_FR, rfl, by decide, fun w hw => List.mem_cons_of_mem _ (u_FR_in w hw), t_FR_ok, rfl, n_FR, rfl, Or.inl ⟨List.mem_cons_of_mem _ kf_FR_31, fun _ => rfl⟩⟩
  · cases h; exact ⟨"PlaceTests$Frame", F_FR, 9, t_FR, rfl, by decide, fun w hw => List.mem_cons_of_mem _ (u_FR_in w hw), t_FR_ok, rfl, n_FR, rfl, Or.inl ⟨List.mem_cons_of_mem _ kf_FR_34, fun _ => rfl⟩⟩
  · cases h; exact ⟨"PlaceTests$Frame", F_FR, 9, t_FR, rfl, by decide, fun w hw => List.mem_cons_of_mem _ (u_FR_in w hw), t_FR_ok, rfl, n_FR, rfl, Or.inl ⟨List.mem_cons_of_mem _ kf_FR_37, fun _ => rfl⟩⟩
  · cases h; exact ⟨"PlaceTests$Frame", F_FR, 9, t_FR, rfl, by decide, fun w hw => List.mem_cons_of_mem _ (u_FR_in w hw), t_FR_ok, rfl, n_FR, rfl, Or.inl ⟨List.mem_cons_of_mem _ kf_FR_40, fun _ => rfl⟩⟩
  · cases h; exact ⟨"PlaceTests$Frame", F_FR, 9, t_FR, rfl, by decide, fun w hw => List.mem_cons_of_mem _ (u_FR_in w hw), t_FR_ok, rfl, n_FR, rfl, Or.inl ⟨List.mem_cons_of_mem _ kf_FR_43, fun _ => rfl⟩⟩
  · cases h; exact ⟨"PlaceTests$Frame", F_FR, 9, t_FR, rfl, by decide, fun w hw => List.mem_cons_of_mem _ (u_FR_in w hw), t_FR_ok, rfl, n_FR, rfl, Or.inl ⟨List.mem_cons_of_mem _ kf_FR_46, fun _ => rfl⟩⟩
  · cases h
def G_FR_c : Nat → Option (Nat × Nat × FieldType × Bool) := fun i => match i with
  | 20 => some (1, 0, .int, true)
  | 24 => some (1, 1, (.array .int), true)
  | 28 => some (1, 2, (.array .int), true)
  | 31 => some (1, 3, (.array .int), true)
  | 34 => some (1, 4, .int, false)
  | 37 => some (1, 5, .int, false)
  | 40 => some (1, 6, .int, false)
  | 43 => some (1, 7, .int, false)
  | 46 => some (1, 8, .int, false)
  | _ => none
theorem G_FR_c_k : (G_FR_c 20 = some (1, 0, .int, true)) ∧ (G_FR_c 24 = some (1, 1, (.array .int), true)) ∧ (G_FR_c 28 = some (1, 2, (.array .int), true)) ∧ (G_FR_c 31 = some (1, 3, (.array .int), true)) ∧ (G_FR_c 34 = some (1, 4, .int, false)) ∧ (G_FR_c 37 = some (1, 5, .int, false)) ∧ (G_FR_c 40 = some (1, 6, .int, false)) ∧ (G_FR_c 43 = some (1, 7, .int, false)) ∧ (G_FR_c 46 = some (1, 8, .int, false)) := ⟨rfl, rfl, rfl, rfl, rfl, rfl, rfl, rfl, rfl⟩
theorem G_FR_c_ok {w : Cond} : ∀ idx ci kf ty fin, G_FR_c idx = some (ci, kf, ty, fin) → zFok (w :: wsG) zcl "PlaceTests$Frame" true idx ci kf ty fin := by
  intro idx ci kf ty fin h
  unfold G_FR_c at h
  split at h
  · cases h; exact ⟨"PlaceTests$Frame", F_FR, 9, t_FR, rfl, by decide, fun w hw => List.mem_cons_of_mem _ (u_FR_in w hw), t_FR_ok, rfl, n_FR, rfl, Or.inl ⟨List.mem_cons_of_mem _ kf_FR_20, fun _ => rfl⟩⟩
  · cases h; exact ⟨"PlaceTests$Frame", F_FR, 9, t_FR, rfl, by decide, fun w hw => List.mem_cons_of_mem _ (u_FR_in w hw), t_FR_ok, rfl, n_FR, rfl, Or.inl ⟨List.mem_cons_of_mem _ kf_FR_24, fun _ => rfl⟩⟩
  · cases h; exact ⟨"PlaceTests$Frame", F_FR, 9, t_FR, rfl, by decide, fun w hw => List.mem_cons_of_mem _ (u_FR_in w hw), t_FR_ok, rfl, n_FR, rfl, Or.inl ⟨List.mem_cons_of_mem _ kf_FR_28, fun _ => rfl⟩⟩
  · cases h; exact ⟨"PlaceTests$Frame", F_FR, 9, t_FR, rfl, by decide, fun w hw => List.mem_cons_of_mem _ (u_FR_in w hw), t_FR_ok, rfl, n_FR, rfl, Or.inl ⟨List.mem_cons_of_mem _ kf_FR_31, fun _ => rfl⟩⟩
  · cases h; exact ⟨"PlaceTests$Frame", F_FR, 9, t_FR, rfl, by decide, fun w hw => List.mem_cons_of_mem _ (u_FR_in w hw), t_FR_ok, rfl, n_FR, rfl, Or.inl ⟨List.mem_cons_of_mem _ kf_FR_34, fun _ => rfl⟩⟩
  · cases h; exact ⟨"PlaceTests$Frame", F_FR, 9, t_FR, rfl, by decide, fun w hw => List.mem_cons_of_mem _ (u_FR_in w hw), t_FR_ok, rfl, n_FR, rfl, Or.inl ⟨List.mem_cons_of_mem _ kf_FR_37, fun _ => rfl⟩⟩
  · cases h; exact ⟨"PlaceTests$Frame", F_FR, 9, t_FR, rfl, by decide, fun w hw => List.mem_cons_of_mem _ (u_FR_in w hw), t_FR_ok, rfl, n_FR, rfl, Or.inl ⟨List.mem_cons_of_mem _ kf_FR_40, fun _ => rfl⟩⟩
  · cases h; exact ⟨"PlaceTests$Frame", F_FR, 9, t_FR, rfl, by decide, fun w hw => List.mem_cons_of_mem _ (u_FR_in w hw), t_FR_ok, rfl, n_FR, rfl, Or.inl ⟨List.mem_cons_of_mem _ kf_FR_43, fun _ => rfl⟩⟩
  · cases h; exact ⟨"PlaceTests$Frame", F_FR, 9, t_FR, rfl, by decide, fun w hw => List.mem_cons_of_mem _ (u_FR_in w hw), t_FR_ok, rfl, n_FR, rfl, Or.inl ⟨List.mem_cons_of_mem _ kf_FR_46, fun _ => rfl⟩⟩
  · cases h
def G_SC : Nat → Option (Nat × Nat × FieldType × Bool) := fun i => match i with
  | 7 => some (2, 0, .int, false)
  | 13 => some (2, 1, .int, false)
  | 16 => some (2, 2, .int, false)
  | 19 => some (2, 3, .int, false)
  | _ => none
theorem G_SC_k : (G_SC 7 = some (2, 0, .int, false)) ∧ (G_SC 13 = some (2, 1, .int, false)) ∧ (G_SC 16 = some (2, 2, .int, false)) ∧ (G_SC 19 = some (2, 3, .int, false)) := ⟨rfl, rfl, rfl, rfl⟩
theorem G_SC_ok {w : Cond} : ∀ idx ci kf ty fin, G_SC idx = some (ci, kf, ty, fin) → zFok (w :: wsG) zcl "PlaceTests$Scissors" false idx ci kf ty fin := by
  intro idx ci kf ty fin h
  unfold G_SC at h
  split at h
  · cases h; exact ⟨"PlaceTests$Scissors", F_SC, 4, t_SC, rfl, by decide, fun w hw => List.mem_cons_of_mem _ (u_SC_in w hw), t_SC_ok, rfl, n_SC, rfl, Or.inl ⟨List.mem_cons_of_mem _ kf_SC_7, fun _ => rfl⟩⟩
  · cases h; exact ⟨"PlaceTests$Scissors", F_SC, 4, t_SC, rfl, by decide, fun w hw => List.mem_cons_of_mem _ (u_SC_in w hw), t_SC_ok, rfl, n_SC, rfl, Or.inl ⟨List.mem_cons_of_mem _ kf_SC_13, fun _ => rfl⟩⟩
  · cases h; exact ⟨"PlaceTests$Scissors", F_SC, 4, t_SC, rfl, by decide, fun w hw => List.mem_cons_of_mem _ (u_SC_in w hw), t_SC_ok, rfl, n_SC, rfl, Or.inl ⟨List.mem_cons_of_mem _ kf_SC_16, fun _ => rfl⟩⟩
  · cases h; exact ⟨"PlaceTests$Scissors", F_SC, 4, t_SC, rfl, by decide, fun w hw => List.mem_cons_of_mem _ (u_SC_in w hw), t_SC_ok, rfl, n_SC, rfl, Or.inl ⟨List.mem_cons_of_mem _ kf_SC_19, fun _ => rfl⟩⟩
  · cases h
def G_SC_c : Nat → Option (Nat × Nat × FieldType × Bool) := fun i => match i with
  | 7 => some (2, 0, .int, false)
  | 13 => some (2, 1, .int, false)
  | 16 => some (2, 2, .int, false)
  | 19 => some (2, 3, .int, false)
  | _ => none
theorem G_SC_c_k : (G_SC_c 7 = some (2, 0, .int, false)) ∧ (G_SC_c 13 = some (2, 1, .int, false)) ∧ (G_SC_c 16 = some (2, 2, .int, false)) ∧ (G_SC_c 19 = some (2, 3, .int, false)) := ⟨rfl, rfl, rfl, rfl⟩
theorem G_SC_c_ok {w : Cond} : ∀ idx ci kf ty fin, G_SC_c idx = some (ci, kf, ty, fin) → zFok (w :: wsG) zcl "PlaceTests$Scissors" true idx ci kf ty fin := by
  intro idx ci kf ty fin h
  unfold G_SC_c at h
  split at h
  · cases h; exact ⟨"PlaceTests$Scissors", F_SC, 4, t_SC, rfl, by decide, fun w hw => List.mem_cons_of_mem _ (u_SC_in w hw), t_SC_ok, rfl, n_SC, rfl, Or.inl ⟨List.mem_cons_of_mem _ kf_SC_7, fun _ => rfl⟩⟩
  · cases h; exact ⟨"PlaceTests$Scissors", F_SC, 4, t_SC, rfl, by decide, fun w hw => List.mem_cons_of_mem _ (u_SC_in w hw), t_SC_ok, rfl, n_SC, rfl, Or.inl ⟨List.mem_cons_of_mem _ kf_SC_13, fun _ => rfl⟩⟩
  · cases h; exact ⟨"PlaceTests$Scissors", F_SC, 4, t_SC, rfl, by decide, fun w hw => List.mem_cons_of_mem _ (u_SC_in w hw), t_SC_ok, rfl, n_SC, rfl, Or.inl ⟨List.mem_cons_of_mem _ kf_SC_16, fun _ => rfl⟩⟩
  · cases h; exact ⟨"PlaceTests$Scissors", F_SC, 4, t_SC, rfl, by decide, fun w hw => List.mem_cons_of_mem _ (u_SC_in w hw), t_SC_ok, rfl, n_SC, rfl, Or.inl ⟨List.mem_cons_of_mem _ kf_SC_19, fun _ => rfl⟩⟩
  · cases h
def G_ST : Nat → Option (Nat × Nat × FieldType × Bool) := fun i => match i with
  | 9 => some (3, 0, .int, false)
  | 15 => some (3, 1, .int, false)
  | 18 => some (3, 2, .int, false)
  | 29 => some (3, 3, .int, false)
  | _ => none
theorem G_ST_k : (G_ST 9 = some (3, 0, .int, false)) ∧ (G_ST 15 = some (3, 1, .int, false)) ∧ (G_ST 18 = some (3, 2, .int, false)) ∧ (G_ST 29 = some (3, 3, .int, false)) := ⟨rfl, rfl, rfl, rfl⟩
theorem G_ST_ok {w : Cond} : ∀ idx ci kf ty fin, G_ST idx = some (ci, kf, ty, fin) → zFok (w :: wsG) zcl "PlaceTests$StencilRule" false idx ci kf ty fin := by
  intro idx ci kf ty fin h
  unfold G_ST at h
  split at h
  · cases h; exact ⟨"PlaceTests$StencilRule", F_ST, 7, t_ST, rfl, by decide, fun w hw => List.mem_cons_of_mem _ (u_ST_in w hw), t_ST_ok, rfl, n_ST, rfl, Or.inl ⟨List.mem_cons_of_mem _ kf_ST_9, fun _ => rfl⟩⟩
  · cases h; exact ⟨"PlaceTests$StencilRule", F_ST, 7, t_ST, rfl, by decide, fun w hw => List.mem_cons_of_mem _ (u_ST_in w hw), t_ST_ok, rfl, n_ST, rfl, Or.inl ⟨List.mem_cons_of_mem _ kf_ST_15, fun _ => rfl⟩⟩
  · cases h; exact ⟨"PlaceTests$StencilRule", F_ST, 7, t_ST, rfl, by decide, fun w hw => List.mem_cons_of_mem _ (u_ST_in w hw), t_ST_ok, rfl, n_ST, rfl, Or.inl ⟨List.mem_cons_of_mem _ kf_ST_18, fun _ => rfl⟩⟩
  · cases h; exact ⟨"PlaceTests$StencilRule", F_ST, 7, t_ST, rfl, by decide, fun w hw => List.mem_cons_of_mem _ (u_ST_in w hw), t_ST_ok, rfl, n_ST, rfl, Or.inl ⟨List.mem_cons_of_mem _ kf_ST_29, fun _ => rfl⟩⟩
  · cases h
def G_ST_c : Nat → Option (Nat × Nat × FieldType × Bool) := fun i => match i with
  | 9 => some (3, 0, .int, false)
  | 15 => some (3, 1, .int, false)
  | 18 => some (3, 2, .int, false)
  | 29 => some (3, 3, .int, false)
  | _ => none
theorem G_ST_c_k : (G_ST_c 9 = some (3, 0, .int, false)) ∧ (G_ST_c 15 = some (3, 1, .int, false)) ∧ (G_ST_c 18 = some (3, 2, .int, false)) ∧ (G_ST_c 29 = some (3, 3, .int, false)) := ⟨rfl, rfl, rfl, rfl⟩
theorem G_ST_c_ok {w : Cond} : ∀ idx ci kf ty fin, G_ST_c idx = some (ci, kf, ty, fin) → zFok (w :: wsG) zcl "PlaceTests$StencilRule" true idx ci kf ty fin := by
  intro idx ci kf ty fin h
  unfold G_ST_c at h
  split at h
  · cases h; exact ⟨"PlaceTests$StencilRule", F_ST, 7, t_ST, rfl, by decide, fun w hw => List.mem_cons_of_mem _ (u_ST_in w hw), t_ST_ok, rfl, n_ST, rfl, Or.inl ⟨List.mem_cons_of_mem _ kf_ST_9, fun _ => rfl⟩⟩
  · cases h; exact ⟨"PlaceTests$StencilRule", F_ST, 7, t_ST, rfl, by decide, fun w hw => List.mem_cons_of_mem _ (u_ST_in w hw), t_ST_ok, rfl, n_ST, rfl, Or.inl ⟨List.mem_cons_of_mem _ kf_ST_15, fun _ => rfl⟩⟩
  · cases h; exact ⟨"PlaceTests$StencilRule", F_ST, 7, t_ST, rfl, by decide, fun w hw => List.mem_cons_of_mem _ (u_ST_in w hw), t_ST_ok, rfl, n_ST, rfl, Or.inl ⟨List.mem_cons_of_mem _ kf_ST_18, fun _ => rfl⟩⟩
  · cases h; exact ⟨"PlaceTests$StencilRule", F_ST, 7, t_ST, rfl, by decide, fun w hw => List.mem_cons_of_mem _ (u_ST_in w hw), t_ST_ok, rfl, n_ST, rfl, Or.inl ⟨List.mem_cons_of_mem _ kf_ST_29, fun _ => rfl⟩⟩
  · cases h
def G_BL : Nat → Option (Nat × Nat × FieldType × Bool) := fun i => match i with
  | 9 => some (4, 4, .int, false)
  | 25 => some (4, 2, .int, false)
  | 28 => some (4, 0, .int, false)
  | 35 => some (4, 3, .int, false)
  | 38 => some (4, 1, .int, false)
  | 41 => some (4, 5, .int, false)
  | 56 => some (4, 6, .int, false)
  | _ => none
theorem G_BL_k : (G_BL 9 = some (4, 4, .int, false)) ∧ (G_BL 25 = some (4, 2, .int, false)) ∧ (G_BL 28 = some (4, 0, .int, false)) ∧ (G_BL 35 = some (4, 3, .int, false)) ∧ (G_BL 38 = some (4, 1, .int, false)) ∧ (G_BL 41 = some (4, 5, .int, false)) ∧ (G_BL 56 = some (4, 6, .int, false)) := ⟨rfl, rfl, rfl, rfl, rfl, rfl, rfl⟩
theorem G_BL_ok {w : Cond} : ∀ idx ci kf ty fin, G_BL idx = some (ci, kf, ty, fin) → zFok (w :: wsG) zcl "PlaceTests$Blending" false idx ci kf ty fin := by
  intro idx ci kf ty fin h
  unfold G_BL at h
  split at h
  · cases h; exact ⟨"PlaceTests$Blending", F_BL, 7, t_BL, rfl, by decide, fun w hw => List.mem_cons_of_mem _ (u_BL_in w hw), t_BL_ok, rfl, n_BL, rfl, Or.inl ⟨List.mem_cons_of_mem _ kf_BL_9, fun _ => rfl⟩⟩
  · cases h; exact ⟨"PlaceTests$Blending", F_BL, 7, t_BL, rfl, by decide, fun w hw => List.mem_cons_of_mem _ (u_BL_in w hw), t_BL_ok, rfl, n_BL, rfl, Or.inl ⟨List.mem_cons_of_mem _ kf_BL_25, fun _ => rfl⟩⟩
  · cases h; exact ⟨"PlaceTests$Blending", F_BL, 7, t_BL, rfl, by decide, fun w hw => List.mem_cons_of_mem _ (u_BL_in w hw), t_BL_ok, rfl, n_BL, rfl, Or.inl ⟨List.mem_cons_of_mem _ kf_BL_28, fun _ => rfl⟩⟩
  · cases h; exact ⟨"PlaceTests$Blending", F_BL, 7, t_BL, rfl, by decide, fun w hw => List.mem_cons_of_mem _ (u_BL_in w hw), t_BL_ok, rfl, n_BL, rfl, Or.inl ⟨List.mem_cons_of_mem _ kf_BL_35, fun _ => rfl⟩⟩
  · cases h; exact ⟨"PlaceTests$Blending", F_BL, 7, t_BL, rfl, by decide, fun w hw => List.mem_cons_of_mem _ (u_BL_in w hw), t_BL_ok, rfl, n_BL, rfl, Or.inl ⟨List.mem_cons_of_mem _ kf_BL_38, fun _ => rfl⟩⟩
  · cases h; exact ⟨"PlaceTests$Blending", F_BL, 7, t_BL, rfl, by decide, fun w hw => List.mem_cons_of_mem _ (u_BL_in w hw), t_BL_ok, rfl, n_BL, rfl, Or.inl ⟨List.mem_cons_of_mem _ kf_BL_41, fun _ => rfl⟩⟩
  · cases h; exact ⟨"PlaceTests$Blending", F_BL, 7, t_BL, rfl, by decide, fun w hw => List.mem_cons_of_mem _ (u_BL_in w hw), t_BL_ok, rfl, n_BL, rfl, Or.inl ⟨List.mem_cons_of_mem _ kf_BL_56, fun _ => rfl⟩⟩
  · cases h
def G_BL_c : Nat → Option (Nat × Nat × FieldType × Bool) := fun i => match i with
  | 9 => some (4, 4, .int, false)
  | 25 => some (4, 2, .int, false)
  | 28 => some (4, 0, .int, false)
  | 35 => some (4, 3, .int, false)
  | 38 => some (4, 1, .int, false)
  | 41 => some (4, 5, .int, false)
  | 56 => some (4, 6, .int, false)
  | _ => none
theorem G_BL_c_k : (G_BL_c 9 = some (4, 4, .int, false)) ∧ (G_BL_c 25 = some (4, 2, .int, false)) ∧ (G_BL_c 28 = some (4, 0, .int, false)) ∧ (G_BL_c 35 = some (4, 3, .int, false)) ∧ (G_BL_c 38 = some (4, 1, .int, false)) ∧ (G_BL_c 41 = some (4, 5, .int, false)) ∧ (G_BL_c 56 = some (4, 6, .int, false)) := ⟨rfl, rfl, rfl, rfl, rfl, rfl, rfl⟩
theorem G_BL_c_ok {w : Cond} : ∀ idx ci kf ty fin, G_BL_c idx = some (ci, kf, ty, fin) → zFok (w :: wsG) zcl "PlaceTests$Blending" true idx ci kf ty fin := by
  intro idx ci kf ty fin h
  unfold G_BL_c at h
  split at h
  · cases h; exact ⟨"PlaceTests$Blending", F_BL, 7, t_BL, rfl, by decide, fun w hw => List.mem_cons_of_mem _ (u_BL_in w hw), t_BL_ok, rfl, n_BL, rfl, Or.inl ⟨List.mem_cons_of_mem _ kf_BL_9, fun _ => rfl⟩⟩
  · cases h; exact ⟨"PlaceTests$Blending", F_BL, 7, t_BL, rfl, by decide, fun w hw => List.mem_cons_of_mem _ (u_BL_in w hw), t_BL_ok, rfl, n_BL, rfl, Or.inl ⟨List.mem_cons_of_mem _ kf_BL_25, fun _ => rfl⟩⟩
  · cases h; exact ⟨"PlaceTests$Blending", F_BL, 7, t_BL, rfl, by decide, fun w hw => List.mem_cons_of_mem _ (u_BL_in w hw), t_BL_ok, rfl, n_BL, rfl, Or.inl ⟨List.mem_cons_of_mem _ kf_BL_28, fun _ => rfl⟩⟩
  · cases h; exact ⟨"PlaceTests$Blending", F_BL, 7, t_BL, rfl, by decide, fun w hw => List.mem_cons_of_mem _ (u_BL_in w hw), t_BL_ok, rfl, n_BL, rfl, Or.inl ⟨List.mem_cons_of_mem _ kf_BL_35, fun _ => rfl⟩⟩
  · cases h; exact ⟨"PlaceTests$Blending", F_BL, 7, t_BL, rfl, by decide, fun w hw => List.mem_cons_of_mem _ (u_BL_in w hw), t_BL_ok, rfl, n_BL, rfl, Or.inl ⟨List.mem_cons_of_mem _ kf_BL_38, fun _ => rfl⟩⟩
  · cases h; exact ⟨"PlaceTests$Blending", F_BL, 7, t_BL, rfl, by decide, fun w hw => List.mem_cons_of_mem _ (u_BL_in w hw), t_BL_ok, rfl, n_BL, rfl, Or.inl ⟨List.mem_cons_of_mem _ kf_BL_41, fun _ => rfl⟩⟩
  · cases h; exact ⟨"PlaceTests$Blending", F_BL, 7, t_BL, rfl, by decide, fun w hw => List.mem_cons_of_mem _ (u_BL_in w hw), t_BL_ok, rfl, n_BL, rfl, Or.inl ⟨List.mem_cons_of_mem _ kf_BL_56, fun _ => rfl⟩⟩
  · cases h
def G_MO : Nat → Option (Nat × Nat × FieldType × Bool) := fun i => match i with
  | 7 => some (5, 3, .int, false)
  | 13 => some (5, 4, .int, false)
  | 16 => some (5, 5, (.array .int), true)
  | 20 => some (5, 6, (.array .int), true)
  | 23 => some (5, 7, (.array .int), true)
  | 26 => some (5, 9, (.array .int), true)
  | 29 => some (5, 10, .int, false)
  | 32 => some (5, 12, (.array .int), true)
  | 35 => some (5, 13, (.array .int), true)
  | 38 => some (5, 14, .int, false)
  | 41 => some (5, 16, (.array .int), true)
  | 44 => some (5, 17, .int, false)
  | 47 => some (5, 18, .int, false)
  | 50 => some (5, 19, (.array .int), true)
  | 53 => some (5, 20, (.array .int), true)
  | 56 => some (5, 21, (.array .int), true)
  | 59 => some (5, 0, .int, false)
  | 70 => some (5, 1, .int, false)
  | 73 => some (5, 2, .int, false)
  | 76 => some (5, 8, .boolean, false)
  | 80 => some (5, 11, .boolean, false)
  | 83 => some (5, 15, .int, false)
  | _ => none
theorem G_MO_k : (G_MO 7 = some (5, 3, .int, false)) ∧ (G_MO 13 = some (5, 4, .int, false)) ∧ (G_MO 16 = some (5, 5, (.array .int), true)) ∧ (G_MO 20 = some (5, 6, (.array .int), true)) ∧ (G_MO 23 = some (5, 7, (.array .int), true)) ∧ (G_MO 26 = some (5, 9, (.array .int), true)) ∧ (G_MO 29 = some (5, 10, .int, false)) ∧ (G_MO 32 = some (5, 12, (.array .int), true)) ∧ (G_MO 35 = some (5, 13, (.array .int), true)) ∧ (G_MO 38 = some (5, 14, .int, false)) ∧ (G_MO 41 = some (5, 16, (.array .int), true)) ∧ (G_MO 44 = some (5, 17, .int, false)) ∧ (G_MO 47 = some (5, 18, .int, false)) ∧ (G_MO 50 = some (5, 19, (.array .int), true)) ∧ (G_MO 53 = some (5, 20, (.array .int), true)) ∧ (G_MO 56 = some (5, 21, (.array .int), true)) ∧ (G_MO 59 = some (5, 0, .int, false)) ∧ (G_MO 70 = some (5, 1, .int, false)) ∧ (G_MO 73 = some (5, 2, .int, false)) ∧ (G_MO 76 = some (5, 8, .boolean, false)) ∧ (G_MO 80 = some (5, 11, .boolean, false)) ∧ (G_MO 83 = some (5, 15, .int, false)) := ⟨rfl, rfl, rfl, rfl, rfl, rfl, rfl, rfl, rfl, rfl, rfl, rfl, rfl, rfl, rfl, rfl, rfl, rfl, rfl, rfl, rfl, rfl⟩
theorem G_MO_ok {w : Cond} : ∀ idx ci kf ty fin, G_MO idx = some (ci, kf, ty, fin) → zFok (w :: wsG) zcl "PlaceTestsModel" false idx ci kf ty fin := by
  intro idx ci kf ty fin h
  unfold G_MO at h
  split at h
  · cases h; exact ⟨"PlaceTestsModel", F_MO, 22, t_MO, rfl, by decide, fun w hw => List.mem_cons_of_mem _ (u_MO_in w hw), t_MO_ok, rfl, n_MO, rfl, Or.inl ⟨List.mem_cons_of_mem _ kf_MO_7, fun _ => rfl⟩⟩
  · cases h; exact ⟨"PlaceTestsModel", F_MO, 22, t_MO, rfl, by decide, fun w hw => List.mem_cons_of_mem _ (u_MO_in w hw), t_MO_ok, rfl, n_MO, rfl, Or.inl ⟨List.mem_cons_of_mem _ kf_MO_13, fun _ => rfl⟩⟩
  · cases h; exact ⟨"PlaceTestsModel", F_MO, 22, t_MO, rfl, by decide, fun w hw => List.mem_cons_of_mem _ (u_MO_in w hw), t_MO_ok, rfl, n_MO, rfl, Or.inl ⟨List.mem_cons_of_mem _ kf_MO_16, fun _ => rfl⟩⟩
  · cases h; exact ⟨"PlaceTestsModel", F_MO, 22, t_MO, rfl, by decide, fun w hw => List.mem_cons_of_mem _ (u_MO_in w hw), t_MO_ok, rfl, n_MO, rfl, Or.inl ⟨List.mem_cons_of_mem _ kf_MO_20, fun _ => rfl⟩⟩
  · cases h; exact ⟨"PlaceTestsModel", F_MO, 22, t_MO, rfl, by decide, fun w hw => List.mem_cons_of_mem _ (u_MO_in w hw), t_MO_ok, rfl, n_MO, rfl, Or.inl ⟨List.mem_cons_of_mem _ kf_MO_23, fun _ => rfl⟩⟩
  · cases h; exact ⟨"PlaceTestsModel", F_MO, 22, t_MO, rfl, by decide, fun w hw => List.mem_cons_of_mem _ (u_MO_in w hw), t_MO_ok, rfl, n_MO, rfl, Or.inl ⟨List.mem_cons_of_mem _ kf_MO_26, fun _ => rfl⟩⟩
  · cases h; exact ⟨"PlaceTestsModel", F_MO, 22, t_MO, rfl, by decide, fun w hw => List.mem_cons_of_mem _ (u_MO_in w hw), t_MO_ok, rfl, n_MO, rfl, Or.inl ⟨List.mem_cons_of_mem _ kf_MO_29, fun _ => rfl⟩⟩
  · cases h; exact ⟨"PlaceTestsModel", F_MO, 22, t_MO, rfl, by decide, fun w hw => List.mem_cons_of_mem _ (u_MO_in w hw), t_MO_ok, rfl, n_MO, rfl, Or.inl ⟨List.mem_cons_of_mem _ kf_MO_32, fun _ => rfl⟩⟩
  · cases h; exact ⟨"PlaceTestsModel", F_MO, 22, t_MO, rfl, by decide, fun w hw => List.mem_cons_of_mem _ (u_MO_in w hw), t_MO_ok, rfl, n_MO, rfl, Or.inl ⟨List.mem_cons_of_mem _ kf_MO_35, fun _ => rfl⟩⟩
  · cases h; exact ⟨"PlaceTestsModel", F_MO, 22, t_MO, rfl, by decide, fun w hw => List.mem_cons_of_mem _ (u_MO_in w hw), t_MO_ok, rfl, n_MO, rfl, Or.inl ⟨List.mem_cons_of_mem _ kf_MO_38, fun _ => rfl⟩⟩
  · cases h; exact ⟨"PlaceTestsModel", F_MO, 22, t_MO, rfl, by decide, fun w hw => List.mem_cons_of_mem _ (u_MO_in w hw), t_MO_ok, rfl, n_MO, rfl, Or.inl ⟨List.mem_cons_of_mem _ kf_MO_41, fun _ => rfl⟩⟩
  · cases h; exact ⟨"PlaceTestsModel", F_MO, 22, t_MO, rfl, by decide, fun w hw => List.mem_cons_of_mem _ (u_MO_in w hw), t_MO_ok, rfl, n_MO, rfl, Or.inl ⟨List.mem_cons_of_mem _ kf_MO_44, fun _ => rfl⟩⟩
  · cases h; exact ⟨"PlaceTestsModel", F_MO, 22, t_MO, rfl, by decide, fun w hw => List.mem_cons_of_mem _ (u_MO_in w hw), t_MO_ok, rfl, n_MO, rfl, Or.inl ⟨List.mem_cons_of_mem _ kf_MO_47, fun _ => rfl⟩⟩
  · cases h; exact ⟨"PlaceTestsModel", F_MO, 22, t_MO, rfl, by decide, fun w hw => List.mem_cons_of_mem _ (u_MO_in w hw), t_MO_ok, rfl, n_MO, rfl, Or.inl ⟨List.mem_cons_of_mem _ kf_MO_50, fun _ => rfl⟩⟩
  · cases h; exact ⟨"PlaceTestsModel", F_MO, 22, t_MO, rfl, by decide, fun w hw => List.mem_cons_of_mem _ (u_MO_in w hw), t_MO_ok, rfl, n_MO, rfl, Or.inl ⟨List.mem_cons_of_mem _ kf_MO_53, fun _ => rfl⟩⟩
  · cases h; exact ⟨"PlaceTestsModel", F_MO, 22, t_MO, rfl, by decide, fun w hw => List.mem_cons_of_mem _ (u_MO_in w hw), t_MO_ok, rfl, n_MO, rfl, Or.inl ⟨List.mem_cons_of_mem _ kf_MO_56, fun _ => rfl⟩⟩
  · cases h; exact ⟨"PlaceTestsModel", F_MO, 22, t_MO, rfl, by decide, fun w hw => List.mem_cons_of_mem _ (u_MO_in w hw), t_MO_ok, rfl, n_MO, rfl, Or.inl ⟨List.mem_cons_of_mem _ kf_MO_59, fun _ => rfl⟩⟩
  · cases h; exact ⟨"PlaceTestsModel", F_MO, 22, t_MO, rfl, by decide, fun w hw => List.mem_cons_of_mem _ (u_MO_in w hw), t_MO_ok, rfl, n_MO, rfl, Or.inl ⟨List.mem_cons_of_mem _ kf_MO_70, fun _ => rfl⟩⟩
  · cases h; exact ⟨"PlaceTestsModel", F_MO, 22, t_MO, rfl, by decide, fun w hw => List.mem_cons_of_mem _ (u_MO_in w hw), t_MO_ok, rfl, n_MO, rfl, Or.inl ⟨List.mem_cons_of_mem _ kf_MO_73, fun _ => rfl⟩⟩
  · cases h; exact ⟨"PlaceTestsModel", F_MO, 22, t_MO, rfl, by decide, fun w hw => List.mem_cons_of_mem _ (u_MO_in w hw), t_MO_ok, rfl, n_MO, rfl, Or.inl ⟨List.mem_cons_of_mem _ kf_MO_76, fun _ => rfl⟩⟩
  · cases h; exact ⟨"PlaceTestsModel", F_MO, 22, t_MO, rfl, by decide, fun w hw => List.mem_cons_of_mem _ (u_MO_in w hw), t_MO_ok, rfl, n_MO, rfl, Or.inl ⟨List.mem_cons_of_mem _ kf_MO_80, fun _ => rfl⟩⟩
  · cases h; exact ⟨"PlaceTestsModel", F_MO, 22, t_MO, rfl, by decide, fun w hw => List.mem_cons_of_mem _ (u_MO_in w hw), t_MO_ok, rfl, n_MO, rfl, Or.inl ⟨List.mem_cons_of_mem _ kf_MO_83, fun _ => rfl⟩⟩
  · cases h
def G_MO_c : Nat → Option (Nat × Nat × FieldType × Bool) := fun i => match i with
  | 7 => some (5, 3, .int, false)
  | 13 => some (5, 4, .int, false)
  | 16 => some (5, 5, (.array .int), true)
  | 20 => some (5, 6, (.array .int), true)
  | 23 => some (5, 7, (.array .int), true)
  | 26 => some (5, 9, (.array .int), true)
  | 29 => some (5, 10, .int, false)
  | 32 => some (5, 12, (.array .int), true)
  | 35 => some (5, 13, (.array .int), true)
  | 38 => some (5, 14, .int, false)
  | 41 => some (5, 16, (.array .int), true)
  | 44 => some (5, 17, .int, false)
  | 47 => some (5, 18, .int, false)
  | 50 => some (5, 19, (.array .int), true)
  | 53 => some (5, 20, (.array .int), true)
  | 56 => some (5, 21, (.array .int), true)
  | 59 => some (5, 0, .int, false)
  | 70 => some (5, 1, .int, false)
  | 73 => some (5, 2, .int, false)
  | 76 => some (5, 8, .boolean, false)
  | 80 => some (5, 11, .boolean, false)
  | 83 => some (5, 15, .int, false)
  | _ => none
theorem G_MO_c_k : (G_MO_c 7 = some (5, 3, .int, false)) ∧ (G_MO_c 13 = some (5, 4, .int, false)) ∧ (G_MO_c 16 = some (5, 5, (.array .int), true)) ∧ (G_MO_c 20 = some (5, 6, (.array .int), true)) ∧ (G_MO_c 23 = some (5, 7, (.array .int), true)) ∧ (G_MO_c 26 = some (5, 9, (.array .int), true)) ∧ (G_MO_c 29 = some (5, 10, .int, false)) ∧ (G_MO_c 32 = some (5, 12, (.array .int), true)) ∧ (G_MO_c 35 = some (5, 13, (.array .int), true)) ∧ (G_MO_c 38 = some (5, 14, .int, false)) ∧ (G_MO_c 41 = some (5, 16, (.array .int), true)) ∧ (G_MO_c 44 = some (5, 17, .int, false)) ∧ (G_MO_c 47 = some (5, 18, .int, false)) ∧ (G_MO_c 50 = some (5, 19, (.array .int), true)) ∧ (G_MO_c 53 = some (5, 20, (.array .int), true)) ∧ (G_MO_c 56 = some (5, 21, (.array .int), true)) ∧ (G_MO_c 59 = some (5, 0, .int, false)) ∧ (G_MO_c 70 = some (5, 1, .int, false)) ∧ (G_MO_c 73 = some (5, 2, .int, false)) ∧ (G_MO_c 76 = some (5, 8, .boolean, false)) ∧ (G_MO_c 80 = some (5, 11, .boolean, false)) ∧ (G_MO_c 83 = some (5, 15, .int, false)) := ⟨rfl, rfl, rfl, rfl, rfl, rfl, rfl, rfl, rfl, rfl, rfl, rfl, rfl, rfl, rfl, rfl, rfl, rfl, rfl, rfl, rfl, rfl⟩
theorem G_MO_c_ok {w : Cond} : ∀ idx ci kf ty fin, G_MO_c idx = some (ci, kf, ty, fin) → zFok (w :: wsG) zcl "PlaceTestsModel" true idx ci kf ty fin := by
  intro idx ci kf ty fin h
  unfold G_MO_c at h
  split at h
  · cases h; exact ⟨"PlaceTestsModel", F_MO, 22, t_MO, rfl, by decide, fun w hw => List.mem_cons_of_mem _ (u_MO_in w hw), t_MO_ok, rfl, n_MO, rfl, Or.inl ⟨List.mem_cons_of_mem _ kf_MO_7, fun _ => rfl⟩⟩
  · cases h; exact ⟨"PlaceTestsModel", F_MO, 22, t_MO, rfl, by decide, fun w hw => List.mem_cons_of_mem _ (u_MO_in w hw), t_MO_ok, rfl, n_MO, rfl, Or.inl ⟨List.mem_cons_of_mem _ kf_MO_13, fun _ => rfl⟩⟩
  · cases h; exact ⟨"PlaceTestsModel", F_MO, 22, t_MO, rfl, by decide, fun w hw => List.mem_cons_of_mem _ (u_MO_in w hw), t_MO_ok, rfl, n_MO, rfl, Or.inl ⟨List.mem_cons_of_mem _ kf_MO_16, fun _ => rfl⟩⟩
  · cases h; exact ⟨"PlaceTestsModel", F_MO, 22, t_MO, rfl, by decide, fun w hw => List.mem_cons_of_mem _ (u_MO_in w hw), t_MO_ok, rfl, n_MO, rfl, Or.inl ⟨List.mem_cons_of_mem _ kf_MO_20, fun _ => rfl⟩⟩
  · cases h; exact ⟨"PlaceTestsModel", F_MO, 22, t_MO, rfl, by decide, fun w hw => List.mem_cons_of_mem _ (u_MO_in w hw), t_MO_ok, rfl, n_MO, rfl, Or.inl ⟨List.mem_cons_of_mem _ kf_MO_23, fun _ => rfl⟩⟩
  · cases h; exact ⟨"PlaceTestsModel", F_MO, 22, t_MO, rfl, by decide, fun w hw => List.mem_cons_of_mem _ (u_MO_in w hw), t_MO_ok, rfl, n_MO, rfl, Or.inl ⟨List.mem_cons_of_mem _ kf_MO_26, fun _ => rfl⟩⟩
  · cases h; exact ⟨"PlaceTestsModel", F_MO, 22, t_MO, rfl, by decide, fun w hw => List.mem_cons_of_mem _ (u_MO_in w hw), t_MO_ok, rfl, n_MO, rfl, Or.inl ⟨List.mem_cons_of_mem _ kf_MO_29, fun _ => rfl⟩⟩
  · cases h; exact ⟨"PlaceTestsModel", F_MO, 22, t_MO, rfl, by decide, fun w hw => List.mem_cons_of_mem _ (u_MO_in w hw), t_MO_ok, rfl, n_MO, rfl, Or.inl ⟨List.mem_cons_of_mem _ kf_MO_32, fun _ => rfl⟩⟩
  · cases h; exact ⟨"PlaceTestsModel", F_MO, 22, t_MO, rfl, by decide, fun w hw => List.mem_cons_of_mem _ (u_MO_in w hw), t_MO_ok, rfl, n_MO, rfl, Or.inl ⟨List.mem_cons_of_mem _ kf_MO_35, fun _ => rfl⟩⟩
  · cases h; exact ⟨"PlaceTestsModel", F_MO, 22, t_MO, rfl, by decide, fun w hw => List.mem_cons_of_mem _ (u_MO_in w hw), t_MO_ok, rfl, n_MO, rfl, Or.inl ⟨List.mem_cons_of_mem _ kf_MO_38, fun _ => rfl⟩⟩
  · cases h; exact ⟨"PlaceTestsModel", F_MO, 22, t_MO, rfl, by decide, fun w hw => List.mem_cons_of_mem _ (u_MO_in w hw), t_MO_ok, rfl, n_MO, rfl, Or.inl ⟨List.mem_cons_of_mem _ kf_MO_41, fun _ => rfl⟩⟩
  · cases h; exact ⟨"PlaceTestsModel", F_MO, 22, t_MO, rfl, by decide, fun w hw => List.mem_cons_of_mem _ (u_MO_in w hw), t_MO_ok, rfl, n_MO, rfl, Or.inl ⟨List.mem_cons_of_mem _ kf_MO_44, fun _ => rfl⟩⟩
  · cases h; exact ⟨"PlaceTestsModel", F_MO, 22, t_MO, rfl, by decide, fun w hw => List.mem_cons_of_mem _ (u_MO_in w hw), t_MO_ok, rfl, n_MO, rfl, Or.inl ⟨List.mem_cons_of_mem _ kf_MO_47, fun _ => rfl⟩⟩
  · cases h; exact ⟨"PlaceTestsModel", F_MO, 22, t_MO, rfl, by decide, fun w hw => List.mem_cons_of_mem _ (u_MO_in w hw), t_MO_ok, rfl, n_MO, rfl, Or.inl ⟨List.mem_cons_of_mem _ kf_MO_50, fun _ => rfl⟩⟩
  · cases h; exact ⟨"PlaceTestsModel", F_MO, 22, t_MO, rfl, by decide, fun w hw => List.mem_cons_of_mem _ (u_MO_in w hw), t_MO_ok, rfl, n_MO, rfl, Or.inl ⟨List.mem_cons_of_mem _ kf_MO_53, fun _ => rfl⟩⟩
  · cases h; exact ⟨"PlaceTestsModel", F_MO, 22, t_MO, rfl, by decide, fun w hw => List.mem_cons_of_mem _ (u_MO_in w hw), t_MO_ok, rfl, n_MO, rfl, Or.inl ⟨List.mem_cons_of_mem _ kf_MO_56, fun _ => rfl⟩⟩
  · cases h; exact ⟨"PlaceTestsModel", F_MO, 22, t_MO, rfl, by decide, fun w hw => List.mem_cons_of_mem _ (u_MO_in w hw), t_MO_ok, rfl, n_MO, rfl, Or.inl ⟨List.mem_cons_of_mem _ kf_MO_59, fun _ => rfl⟩⟩
  · cases h; exact ⟨"PlaceTestsModel", F_MO, 22, t_MO, rfl, by decide, fun w hw => List.mem_cons_of_mem _ (u_MO_in w hw), t_MO_ok, rfl, n_MO, rfl, Or.inl ⟨List.mem_cons_of_mem _ kf_MO_70, fun _ => rfl⟩⟩
  · cases h; exact ⟨"PlaceTestsModel", F_MO, 22, t_MO, rfl, by decide, fun w hw => List.mem_cons_of_mem _ (u_MO_in w hw), t_MO_ok, rfl, n_MO, rfl, Or.inl ⟨List.mem_cons_of_mem _ kf_MO_73, fun _ => rfl⟩⟩
  · cases h; exact ⟨"PlaceTestsModel", F_MO, 22, t_MO, rfl, by decide, fun w hw => List.mem_cons_of_mem _ (u_MO_in w hw), t_MO_ok, rfl, n_MO, rfl, Or.inl ⟨List.mem_cons_of_mem _ kf_MO_76, fun _ => rfl⟩⟩
  · cases h; exact ⟨"PlaceTestsModel", F_MO, 22, t_MO, rfl, by decide, fun w hw => List.mem_cons_of_mem _ (u_MO_in w hw), t_MO_ok, rfl, n_MO, rfl, Or.inl ⟨List.mem_cons_of_mem _ kf_MO_80, fun _ => rfl⟩⟩
  · cases h; exact ⟨"PlaceTestsModel", F_MO, 22, t_MO, rfl, by decide, fun w hw => List.mem_cons_of_mem _ (u_MO_in w hw), t_MO_ok, rfl, n_MO, rfl, Or.inl ⟨List.mem_cons_of_mem _ kf_MO_83, fun _ => rfl⟩⟩
  · cases h

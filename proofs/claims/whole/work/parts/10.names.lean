def R_PT : String := "PlaceTests"
def F_PT : u_T := fun k => match k with
  | 0 => ("PlaceTests", "places", "LPlaceTests$Frame;", false)
  | 1 => ("PlaceTests", "opening", "LPlaceTests$Scissors;", true)
  | 2 => ("PlaceTests", "depthTest", "I", false)
  | 3 => ("PlaceTests", "depthWritten", "Z", false)
  | 4 => ("PlaceTests", "front", "LPlaceTests$StencilRule;", true)
  | 5 => ("PlaceTests", "back", "LPlaceTests$StencilRule;", true)
  | 6 => ("PlaceTests", "blending", "LPlaceTests$Blending;", true)
  | 7 => ("PlaceTests", "logicNumber", "I", false)
  | 8 => ("PlaceTests", "colourBits", "I", false)
  | _ => ("PlaceTests", "answers", "[I", true)
def t_PT : Nat → FieldType := fun k => match k with
  | 0 => (.object "PlaceTests$Frame")
  | 1 => (.object "PlaceTests$Scissors")
  | 2 => .int
  | 3 => .boolean
  | 4 => (.object "PlaceTests$StencilRule")
  | 5 => (.object "PlaceTests$StencilRule")
  | 6 => (.object "PlaceTests$Blending")
  | 7 => .int
  | 8 => .int
  | _ => (.array .int)
theorem n_PT : ∀ a, a < 10 → ∀ b, b < 10 → a ≠ b → (F_PT a).2.1 ≠ (F_PT b).2.1 := by decide +kernel
theorem t_PT_ok : ∀ k, k < 10 → parseFieldDescriptor (F_PT k).2.2.1 = some (t_PT k) := by decide +kernel
def R_FR : String := "PlaceTests$Frame"
def F_FR : u_T := fun k => match k with
  | 0 => ("PlaceTests$Frame", "room", "I", true)
  | 1 => ("PlaceTests$Frame", "colours", "[I", true)
  | 2 => ("PlaceTests$Frame", "depths", "[I", true)
  | 3 => ("PlaceTests$Frame", "stencils", "[I", true)
  | 4 => ("PlaceTests$Frame", "x0", "I", false)
  | 5 => ("PlaceTests$Frame", "y0", "I", false)
  | 6 => ("PlaceTests$Frame", "wide", "I", false)
  | 7 => ("PlaceTests$Frame", "high", "I", false)
  | _ => ("PlaceTests$Frame", "count", "I", false)
def t_FR : Nat → FieldType := fun k => match k with
  | 0 => .int
  | 1 => (.array .int)
  | 2 => (.array .int)
  | 3 => (.array .int)
  | 4 => .int
  | 5 => .int
  | 6 => .int
  | 7 => .int
  | _ => .int
theorem n_FR : ∀ a, a < 9 → ∀ b, b < 9 → a ≠ b → (F_FR a).2.1 ≠ (F_FR b).2.1 := by decide +kernel
theorem t_FR_ok : ∀ k, k < 9 → parseFieldDescriptor (F_FR k).2.2.1 = some (t_FR k) := by decide +kernel
def R_SC : String := "PlaceTests$Scissors"
def F_SC : u_T := fun k => match k with
  | 0 => ("PlaceTests$Scissors", "x0", "I", false)
  | 1 => ("PlaceTests$Scissors", "y0", "I", false)
  | 2 => ("PlaceTests$Scissors", "x1", "I", false)
  | _ => ("PlaceTests$Scissors", "y1", "I", false)
def t_SC : Nat → FieldType := fun k => match k with
  | 0 => .int
  | 1 => .int
  | 2 => .int
  | _ => .int
theorem n_SC : ∀ a, a < 4 → ∀ b, b < 4 → a ≠ b → (F_SC a).2.1 ≠ (F_SC b).2.1 := by decide +kernel
theorem t_SC_ok : ∀ k, k < 4 → parseFieldDescriptor (F_SC k).2.2.1 = some (t_SC k) := by decide +kernel
def R_ST : String := "PlaceTests$StencilRule"
def F_ST : u_T := fun k => match k with
  | 0 => ("PlaceTests$StencilRule", "test", "I", false)
  | 1 => ("PlaceTests$StencilRule", "value", "I", false)
  | 2 => ("PlaceTests$StencilRule", "mask", "I", false)
  | 3 => ("PlaceTests$StencilRule", "written", "I", false)
  | 4 => ("PlaceTests$StencilRule", "fails", "I", false)
  | 5 => ("PlaceTests$StencilRule", "depthFails", "I", false)
  | _ => ("PlaceTests$StencilRule", "holds", "I", false)
def t_ST : Nat → FieldType := fun k => match k with
  | 0 => .int
  | 1 => .int
  | 2 => .int
  | 3 => .int
  | 4 => .int
  | 5 => .int
  | _ => .int
theorem n_ST : ∀ a, a < 7 → ∀ b, b < 7 → a ≠ b → (F_ST a).2.1 ≠ (F_ST b).2.1 := by decide +kernel
theorem t_ST_ok : ∀ k, k < 7 → parseFieldDescriptor (F_ST k).2.2.1 = some (t_ST k) := by decide +kernel
def R_BL : String := "PlaceTests$Blending"
def F_BL : u_T := fun k => match k with
  | 0 => ("PlaceTests$Blending", "source", "I", false)
  | 1 => ("PlaceTests$Blending", "place", "I", false)
  | 2 => ("PlaceTests$Blending", "sourceA", "I", false)
  | 3 => ("PlaceTests$Blending", "placeA", "I", false)
  | 4 => ("PlaceTests$Blending", "equation", "I", false)
  | 5 => ("PlaceTests$Blending", "equationA", "I", false)
  | _ => ("PlaceTests$Blending", "constant", "I", false)
def t_BL : Nat → FieldType := fun k => match k with
  | 0 => .int
  | 1 => .int
  | 2 => .int
  | 3 => .int
  | 4 => .int
  | 5 => .int
  | _ => .int
theorem n_BL : ∀ a, a < 7 → ∀ b, b < 7 → a ≠ b → (F_BL a).2.1 ≠ (F_BL b).2.1 := by decide +kernel
theorem t_BL_ok : ∀ k, k < 7 → parseFieldDescriptor (F_BL k).2.2.1 = some (t_BL k) := by decide +kernel
def R_MO : String := "PlaceTestsModel"
def F_MO : u_T := fun k => match k with
  | 0 => ("PlaceTestsModel", "thrown", "I", false)
  | 1 => ("PlaceTestsModel", "x0", "I", false)
  | 2 => ("PlaceTestsModel", "y0", "I", false)
  | 3 => ("PlaceTestsModel", "wide", "I", false)
  | 4 => ("PlaceTestsModel", "high", "I", false)
  | 5 => ("PlaceTestsModel", "channels", "[I", true)
  | 6 => ("PlaceTestsModel", "depths", "[I", true)
  | 7 => ("PlaceTestsModel", "stencils", "[I", true)
  | 8 => ("PlaceTestsModel", "scissored", "Z", false)
  | 9 => ("PlaceTestsModel", "scissor", "[I", true)
  | 10 => ("PlaceTestsModel", "depthTest", "I", false)
  | 11 => ("PlaceTestsModel", "depthWritten", "Z", false)
  | 12 => ("PlaceTestsModel", "stencil", "[I", true)
  | 13 => ("PlaceTestsModel", "factors", "[I", true)
  | 14 => ("PlaceTestsModel", "equation", "I", false)
  | 15 => ("PlaceTestsModel", "equationA", "I", false)
  | 16 => ("PlaceTestsModel", "constant", "[I", true)
  | 17 => ("PlaceTestsModel", "logic", "I", false)
  | 18 => ("PlaceTestsModel", "mask", "I", false)
  | 19 => ("PlaceTestsModel", "answers", "[I", true)
  | 20 => ("PlaceTestsModel", "s", "[I", true)
  | _ => ("PlaceTestsModel", "d", "[I", true)
def t_MO : Nat → FieldType := fun k => match k with
  | 0 => .int
  | 1 => .int
  | 2 => .int
  | 3 => .int
  | 4 => .int
  | 5 => (.array .int)
  | 6 => (.array .int)
  | 7 => (.array .int)
  | 8 => .boolean
  | 9 => (.array .int)
  | 10 => .int
  | 11 => .boolean
  | 12 => (.array .int)
  | 13 => (.array .int)
  | 14 => .int
  | 15 => .int
  | 16 => (.array .int)
  | 17 => .int
  | 18 => .int
  | 19 => (.array .int)
  | 20 => (.array .int)
  | _ => (.array .int)
theorem n_MO : ∀ a, a < 22 → ∀ b, b < 22 → a ≠ b → (F_MO a).2.1 ≠ (F_MO b).2.1 := by decide +kernel
theorem t_MO_ok : ∀ k, k < 22 → parseFieldDescriptor (F_MO k).2.2.1 = some (t_MO k) := by decide +kernel
def F_no : u_T := fun _ => ("", "", "", false)
def R_CO : String := "PlaceTests$Colour"
def R_LA : String := "PlaceTestsLaw"
def zcl : List vw_C := [("PlaceTests", F_PT, 10), ("PlaceTests$Frame", F_FR, 9), ("PlaceTests$Scissors", F_SC, 4), ("PlaceTests$StencilRule", F_ST, 7), ("PlaceTests$Blending", F_BL, 7), ("PlaceTestsModel", F_MO, 22), ("java/lang/IllegalArgumentException", F_no, 0), ("java/lang/IndexOutOfBoundsException", F_no, 0)]
def wsG : List Cond := lw_tbl.filter zgood
theorem wg {w : Cond} (i : Nat) (h : lw_tbl[i]? = some w) (hg : zgood w = true) : w ∈ wsG := List.mem_filter.mpr ⟨List.mem_of_getElem? h, hg⟩
theorem wsG_good : ∀ w ∈ wsG, zgood w = true := fun w h => (List.mem_filter.mp h).2
theorem wsG_all {L : List Cond} (h : L.all (fun w => decide (w ∈ lw_tbl) && zgood w) = true) : ∀ w ∈ L, w ∈ wsG := by
  intro w hw
  have := List.all_eq_true.mp h w hw
  rw [Bool.and_eq_true, decide_eq_true_eq] at this
  exact List.mem_filter.mpr this
theorem u_PT_in : ∀ w ∈ u_ws "PlaceTests" F_PT 10, w ∈ wsG := wsG_all (by decide +kernel)
theorem u_FR_in : ∀ w ∈ u_ws "PlaceTests$Frame" F_FR 9, w ∈ wsG := wsG_all (by decide +kernel)
theorem u_SC_in : ∀ w ∈ u_ws "PlaceTests$Scissors" F_SC 4, w ∈ wsG := wsG_all (by decide +kernel)
theorem u_ST_in : ∀ w ∈ u_ws "PlaceTests$StencilRule" F_ST 7, w ∈ wsG := wsG_all (by decide +kernel)
theorem u_BL_in : ∀ w ∈ u_ws "PlaceTests$Blending" F_BL 7, w ∈ wsG := wsG_all (by decide +kernel)
theorem u_MO_in : ∀ w ∈ u_ws "PlaceTestsModel" F_MO 22, w ∈ wsG := wsG_all (by decide +kernel)

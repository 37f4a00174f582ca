theorem zi1_s {st : List Value} {f : Int32 → List Value → Prop} (h : zi1 st f) : ∃ x r, st = .int x :: r ∧ f x r := by
  unfold zi1 at h
  split at h
  · exact ⟨_, _, rfl, h⟩
  · exact h.elim
theorem zi2_s {st : List Value} {f : Int32 → Int32 → List Value → Prop} (h : zi2 st f) : ∃ x y r, st = .int y :: .int x :: r ∧ f x y r := by
  unfold zi2 at h
  split at h
  · exact ⟨_, _, _, rfl, h⟩
  · exact h.elim
theorem zr1_s {st : List Value} {f : Nat → List Value → Prop} (h : zr1 st f) : ∃ x r, st = .ref x :: r ∧ f x r := by
  unfold zr1 at h
  split at h
  · exact ⟨_, _, rfl, h⟩
  · exact h.elim
theorem zri_s {st : List Value} {f : Nat → Int32 → List Value → Prop} (h : zri st f) : ∃ i j r, st = .int j :: .ref i :: r ∧ f i j r := by
  unfold zri at h
  split at h
  · exact ⟨_, _, _, rfl, h⟩
  · exact h.elim
theorem zrii_s {st : List Value} {f : Nat → Int32 → Int32 → List Value → Prop} (h : zrii st f) : ∃ i j x r, st = .int x :: .int j :: .ref i :: r ∧ f i j x r := by
  unfold zrii at h
  split at h
  · exact ⟨_, _, _, _, rfl, h⟩
  · exact h.elim
theorem zril_s {st : List Value} {f : Nat → Int32 → Int64 → List Value → Prop} (h : zril st f) : ∃ i j x r, st = .long x :: .int j :: .ref i :: r ∧ f i j x r := by
  unfold zril at h
  split at h
  · exact ⟨_, _, _, _, rfl, h⟩
  · exact h.elim
theorem zvr_s {st : List Value} {f : Nat → Value → List Value → Prop} (h : zvr st f) : ∃ i v r, st = v :: .ref i :: r ∧ f i v r := by
  unfold zvr at h
  split at h
  · exact ⟨_, _, _, rfl, h⟩
  · exact h.elim
theorem zl2_s {st : List Value} {f : Int64 → Int64 → List Value → Prop} (h : zl2 st f) : ∃ x y r, st = .long y :: .long x :: r ∧ f x y r := by
  unfold zl2 at h
  split at h
  · exact ⟨_, _, _, rfl, h⟩
  · exact h.elim
theorem zv1_s {st : List Value} {f : Value → List Value → Prop} (h : zv1 st f) : ∃ v r, st = v :: r ∧ v.category = 1 ∧ f v r := by
  unfold zv1 at h
  split at h
  · exact ⟨_, _, rfl, h⟩
  · exact h.elim
theorem zv2_s {st : List Value} {f : Value → Value → List Value → Prop} (h : zv2 st f) : ∃ v w r, st = v :: w :: r ∧ v.category = 1 ∧ w.category = 1 ∧ f v w r := by
  unfold zv2 at h
  split at h
  · exact ⟨_, _, _, rfl, h⟩
  · exact h.elim
theorem zv3_s {st : List Value} {f : Value → Value → Value → List Value → Prop} (h : zv3 st f) : ∃ v w u r, st = v :: w :: u :: r ∧ v.category = 1 ∧ w.category = 1 ∧ u.category = 1 ∧ f v w u r := by
  unfold zv3 at h
  split at h
  · exact ⟨_, _, _, _, rfl, h⟩
  · exact h.elim
theorem zli_s {lc : zLc} {i : Nat} {f : Int32 → Prop} (h : zli lc i f) : ∃ x, lc[i]? = some (some (.int x)) ∧ f x := by
  unfold zli at h
  split at h
  · rename_i x e; exact ⟨_, e, h⟩
  · exact h.elim
theorem zlr_s {lc : zLc} {i : Nat} {f : Nat → Prop} (h : zlr lc i f) : ∃ x, lc[i]? = some (some (.ref x)) ∧ f x := by
  unfold zlr at h
  split at h
  · rename_i x e; exact ⟨_, e, h⟩
  · exact h.elim
theorem zob_s {h : zH} {i ci : Nat} {f : List Value → Prop} (hw : zob h i ci f) : ∃ fs, h[i]? = some (.inr (ci, fs)) ∧ f fs := by
  unfold zob at hw
  split at hw
  · rename_i c fs e
    obtain ⟨rfl, hw⟩ := hw
    exact ⟨_, e, hw⟩
  · exact hw.elim
theorem zai_s {h : zH} {i : Nat} {f : ClassId → Nat → (Nat → Int32) → Prop} (hw : zai h i f) : ∃ cA n g, h[i]? = some (.inl (cA, n, .inl g)) ∧ f cA n g := by
  unfold zai at hw
  split at hw
  · rename_i e; exact ⟨_, _, _, e, hw⟩
  · exact hw.elim
theorem zal_s {h : zH} {i : Nat} {f : ClassId → Nat → (Nat → Int64) → Prop} (hw : zal h i f) : ∃ cA n g, h[i]? = some (.inl (cA, n, .inr (.inl g))) ∧ f cA n g := by
  unfold zal at hw
  split at hw
  · rename_i e; exact ⟨_, _, _, e, hw⟩
  · exact hw.elim
theorem zfv_s {fs : List Value} {k : Nat} {f : Value → Prop} (hw : zfv fs k f) : ∃ v, fs[k]? = some v ∧ f v := by
  unfold zfv at hw
  split at hw
  · rename_i e; exact ⟨_, e, hw⟩
  · exact hw.elim
theorem zswT_s {x : Int32} {r : Nat → Prop} {pc : Nat} {d : Int} : ∀ {l : List Int} {lo : Int}, zswT x r pc d lo l → ((x.toInt < lo ∨ lo + l.length ≤ x.toInt) ∧ zgo r pc d) ∨ ∃ (j : Nat) (o : Int), lo + j = x.toInt ∧ l[j]? = some o ∧ zgo r pc o
  | [], lo, h => Or.inl ⟨by simp; omega, h⟩
  | o :: l, lo, h => by
    by_cases e : x.toInt = lo
    · exact Or.inr ⟨0, o, by omega, rfl, h.1 e⟩
    · rcases zswT_s (h.2 e) with ⟨h1, h2⟩ | ⟨j, o', h1, h2, h3⟩
      · refine Or.inl ⟨?_, h2⟩
        simp only [List.length_cons]
        omega
      · exact Or.inr ⟨j + 1, o', by omega, by simpa using h2, h3⟩
def zag (n : Nat) (ad' ad : Nat → Nat) : Prop := ∀ i, (i < n ∨ i = 1000) → ad' i = ad i
def zins (kd idx : Nat) : Instr := match kd with
  | 0 => .invokestatic idx
  | 1 => .invokevirtual idx
  | _ => .invokespecial idx
/-- a field's number is right -/
def zFok (Ts : List Cond) (cl : List vw_C) (own : String) (ctor : Bool) (idx ci kf : Nat) (ty : FieldType) (fin : Bool) : Prop :=
  ∃ (C : String) (T : u_T) (N : Nat) (ty0 : Nat → FieldType), cl[ci]? = some (C, T, N) ∧ kf < N ∧ (∀ w ∈ u_ws C T N, w ∈ Ts) ∧ (∀ k, k < N → parseFieldDescriptor (T k).2.2.1 = some (ty0 k)) ∧ ty0 kf = ty ∧ (∀ a, a < N → ∀ b, b < N → a ≠ b → (T a).2.1 ≠ (T b).2.1) ∧ (T kf).2.2.2 = fin ∧
    ((Cond.fieldLink own idx (T kf).1 (T kf).2.1 (T kf).2.2.1 ∈ Ts ∧ (fin = true → (T kf).1 = own)) ∨ (¬ (fin = true ∧ ctor = true) ∧ ∃ host, Cond.fieldLinkNest own idx (T kf).1 (T kf).2.1 (T kf).2.2.1 host ∈ Ts))
def zNok (Ts : List Cond) (cl : List vw_C) (own : String) (idx ci n : Nat) (fs : List Value) : Prop :=
  ∃ (C : String) (T : u_T) (ty0 : Nat → FieldType), cl[ci]? = some (C, T, n) ∧ (∀ w ∈ u_ws C T n, w ∈ Ts) ∧ (∀ k, k < n → parseFieldDescriptor (T k).2.2.1 = some (ty0 k)) ∧ Cond.classLink own idx C ∈ Ts ∧ Cond.instantiable C n ∈ Ts ∧ Cond.initialized C ∈ Ts ∧ (∀ j, j < n → defaultValue (ty0 j) = vp_V fs j) ∧ ∀ v ∈ fs, ∀ i, v ≠ .ref i
def zS (s : State) (D : va_G) (cl : List vw_C) (A : Nat → Prop) (nL n0 : Nat) (ad0 : Nat → Nat) (lc : zLc) (h : zH) (wr : Bool) (ad : Nat → Nat) (H : Heap) (locs : List Loc) (ls : Array Slot) : Prop :=
  va_P D cl (za_w ad h) H ∧ va_D A (za_w ad h) ∧ va_S A s.heap H locs ∧ zl_has ad ls nL lc ∧ (wr = false → H = s.heap ∧ locs = []) ∧ zag n0 ad ad0 ∧ n0 ≤ h.length ∧ (h.length = n0 → ad = ad0)
def zJ (p : Program) (l : Launch) (e : Env) (R : Room) (s : State) (m : MethodId) (args : Array Value) (below : List Frame) (meth : Method) (c : Code) (Q : State → Prop) (D : va_G) (cl : List vw_C) (A : Nat → Prop) (nL n0 : Nat) (ad0 : Nat → Nat) : zRc := fun pc lc st h wr k q =>
  ∀ (ad : Nat → Nat) (H : Heap) (locs : List Loc) (ls : Array Slot), zS s D cl A nL n0 ad0 lc h wr ad H locs ls → W p l e R s m args below meth c H locs k q Q (F0 m pc ls (st.map (za_v ad)))
/-- the method is being left by an exception at a call: what comes then -/
def zWt (p : Program) (l : Launch) (e : Env) (R : Room) (s : State) (m : MethodId) (args : Array Value) (below : List Frame) (meth : Method) (c : Code) (H : Heap) (locs : List Loc) (k q : Nat) (Q : State → Prop) (a : Addr) (g : JFrame) : Prop :=
  ∀ T : State, T.heap = H → Stand p l e R s m args below meth c T locs k q → ∃ t, Steps p.tables e below ((T.setTop g).pushFrame (.throwing a)) t ∧ Q t
def zAft (p : Program) (l : Launch) (e : Env) (R : Room) (s : State) (m : MethodId) (args : Array Value) (below : List Frame) (meth : Method) (c : Code) (D : va_G) (cl : List vw_C) (H : Heap) (locs : List Loc) (k q : Nat) (Q : State → Prop) (pc : Nat) (ls : Array Slot) (rest : List Value) (ad' : Nat → Nat) (o : zO) : Prop := match o with
  | .inl v => W p l e R s m args below meth c H locs k q Q (F0 m (pc + 3) ls ((v.map (za_v ad')).toList ++ rest))
  | .inr ci => ∀ a, va_at D cl (a, .inr (ci, [])) H → zWt p l e R s m args below meth c H locs k q Q a (F0 m pc ls rest)
/-- a row for a call -/
def zRow (p : Program) (l : Launch) (e : Env) (R : Room) (s : State) (m : MethodId) (args : Array Value) (below : List Frame) (meth : Method) (c : Code) (cc : ByteArray) (D : va_G) (cl : List vw_C) (A : Nat → Prop) (nL : Nat) (kd idx : Nat) (en : zEn) : Prop :=
  ∀ (Q : State → Prop) (pc : Nat) (ls : Array Slot) (as rest : List Value) (h : zH) (ad : Nat → Nat) (H : Heap) (locs : List Loc) (k q : Nat) (K' : zO → zH → Prop),
    decode cc pc = .ok (zins kd idx, 3) → as.length = en.1 → zrv en.2.1 as h → ls.size = nL → (rest.map fun v => v.category).sum ≤ 8 → k + en.2.2.2.2.1 ≤ R.cells → q + en.2.2.2.2.2.1 ≤ R.slots →
    va_P D cl (za_w ad h) H → va_D A (za_w ad h) → va_S A s.heap H locs → en.2.2.2.2.2.2 as h K' →
    (∀ (o : zO) (h' : zH) (ad' : Nat → Nat) (H1 : Heap) (locs1 : List Loc), K' o h' → zag h.length ad' ad → (h'.length = h.length → ad' = ad) → h.length ≤ h'.length → va_P D cl (za_w ad' h') H1 → va_D A (za_w ad' h') → va_S A s.heap H1 locs1 →
      (∀ v, o = .inl v → en.2.2.2.1 = true → H1 = H ∧ locs1 = locs) → zAft p l e R s m args below meth c D cl H1 locs1 (k + en.2.2.2.2.1) (q + en.2.2.2.2.2.1) Q pc ls (rest.map (za_v ad)) ad' o) →
    W p l e R s m args below meth c H locs k q Q (F0 m pc ls ((as.reverse ++ rest).map (za_v ad)))
theorem zS_i {s : State} {D : va_G} {cl : List vw_C} {A : Nat → Prop} {nL n0 : Nat} {ad0 : Nat → Nat} {lc lc' : zLc} {h : zH} {wr : Bool} {ad : Nat → Nat} {H : Heap} {locs : List Loc} {ls ls' : Array Slot} (hS : zS s D cl A nL n0 ad0 lc h wr ad H locs ls) (hl : zl_has ad ls' nL lc') : zS s D cl A nL n0 ad0 lc' h wr ad H locs ls' :=
  ⟨hS.1, hS.2.1, hS.2.2.1, hl, hS.2.2.2.2⟩
theorem zn_v {ty : FieldType} {ad : Nat → Nat} {v : Value} (h1 : narrow ty v = v) (h2 : fits ty v = true) : narrow ty (za_v ad v) = za_v ad v ∧ fits ty (za_v ad v) = true := by
  cases v with
  | ref i => cases ty <;> simp_all [fits, za_v, narrow]
  | _ => exact ⟨h1, h2⟩

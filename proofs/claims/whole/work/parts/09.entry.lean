section ZROWO
variable {p : Program} {l : Launch} {e : Env} {R : Room} {s : State} {m : MethodId} {args : Array Value} {below : List Frame} {meth : Method} {c : Code}
variable {cc : ByteArray} {D : va_G} {cl : List vw_C} {A : Nat → Prop} {nL : Nat} {own : String} {Ts : List Cond}
/-- what Object's constructor does: nothing -/
def zT_obj : zT := fun as h K => match as with
  | [.ref _] => K (.inl none) h
  | _ => False
def zT_max : zT := fun as h K => match as with
  | [.int x, .int y] => K (.inl (some (.int (if x < y then y else x)))) h
  | _ => False
def zT_min : zT := fun as h K => match as with
  | [.int x, .int y] => K (.inl (some (.int (if y < x then y else x)))) h
  | _ => False
theorem zRow_obj {idx : Nat} (hx : p.tables.exec = Jvm.exec) (hb : c.code = cc) (hml : c.maxLocals = nL) (hown : s.vm.findClass own = some m.cls) (hts : ∀ w ∈ Ts, w.before args s = true) (h1 : Cond.methodLink own idx Lib.objectInit ∈ Ts) (h2 : Cond.instanceMethod Lib.objectInit ∈ Ts) (h3 : Cond.code Lib.objectInit ⟨#[0xb1]⟩ 1 none ∈ Ts) (hf : 1 ≤ R.frames) (hl : 20 ≤ R.locals) :
    zRow p l e R s m args below meth c cc D cl A nL 2 idx (1, none, true, true, 0, 0, zT_obj) := by
  intro Q pc ls as rest h ad H locs k q K' hd hlen hrv hsz hcat hk hq hP hD hS hT hcont
  match as, hT with
  | [.ref i], hT =>
  refine W.objInit (a := ad i) (rest := rest.map (za_v ad)) hx hb hown (hts _ h1) (hts _ h2) (hts _ h3) rfl (by show ls.size = _; rw [hml]; exact hsz) rfl hd hf ?_ ?_
  · show 2 * 0 + _ + 12 ≤ _
    rw [List.map_map]
    have : (rest.map ((fun v => v.category) ∘ za_v ad)) = rest.map (fun v => v.category) := List.map_congr_left (fun v _ => za_cat ad v)
    rw [this]
    omega
  · exact hcont (.inl none) h ad H locs hT (fun _ _ => rfl) (fun _ => rfl) (Nat.le_refl _) hP hD hS (fun _ _ _ => ⟨rfl, rfl⟩)
theorem zRow_max {idx : Nat} (hx : p.tables.exec = Jvm.exec) (hb : c.code = cc) (hml : c.maxLocals = nL) (hown : s.vm.findClass own = some m.cls) (hts : ∀ w ∈ Ts, w.before args s = true) (h1 : Cond.methodLink own idx Lib.Math.max.name ∈ Ts) (h2 : Cond.static Lib.Math.max.name ∈ Ts) (h3 : Cond.initialized "java/lang/Math" ∈ Ts) (h4 : Cond.code Lib.Math.max.name Lib.Math.max.code 2 (some .int) ∈ Ts) (hf : 1 ≤ R.frames) (hl : 21 ≤ R.locals) :
    zRow p l e R s m args below meth c cc D cl A nL 0 idx (2, none, true, true, 0, 0, zT_max) := by
  intro Q pc ls as rest h ad H locs k q K' hd hlen hrv hsz hcat hk hq hP hD hS hT hcont
  match as, hT with
  | [.int x, .int y], hT =>
  refine va_mmax (x := x) (y := y) (rest := rest.map (za_v ad)) hx hb (by rw [hml]; exact hsz.symm) hown (hts _ h1) (hts _ h2) (hts _ h3) (hts _ h4) hf ?_ hk hq hd ?_
  · rw [List.map_map]
    have : (rest.map ((fun v => v.category) ∘ za_v ad)) = rest.map (fun v => v.category) := List.map_congr_left (fun v _ => za_cat ad v)
    rw [this]
    omega
  · exact hcont _ h ad H locs hT (fun _ _ => rfl) (fun _ => rfl) (Nat.le_refl _) hP hD hS (fun _ _ _ => ⟨rfl, rfl⟩)
theorem zRow_min {idx : Nat} (hx : p.tables.exec = Jvm.exec) (hb : c.code = cc) (hml : c.maxLocals = nL) (hown : s.vm.findClass own = some m.cls) (hts : ∀ w ∈ Ts, w.before args s = true) (h1 : Cond.methodLink own idx Lib.Math.min.name ∈ Ts) (h2 : Cond.static Lib.Math.min.name ∈ Ts) (h3 : Cond.initialized "java/lang/Math" ∈ Ts) (h4 : Cond.code Lib.Math.min.name Lib.Math.min.code 2 (some .int) ∈ Ts) (hf : 1 ≤ R.frames) (hl : 21 ≤ R.locals) :
    zRow p l e R s m args below meth c cc D cl A nL 0 idx (2, none, true, true, 0, 0, zT_min) := by
  intro Q pc ls as rest h ad H locs k q K' hd hlen hrv hsz hcat hk hq hP hD hS hT hcont
  match as, hT with
  | [.int x, .int y], hT =>
  refine va_mmin (x := x) (y := y) (rest := rest.map (za_v ad)) hx hb (by rw [hml]; exact hsz.symm) hown (hts _ h1) (hts _ h2) (hts _ h3) (hts _ h4) hf ?_ hk hq hd ?_
  · rw [List.map_map]
    have : (rest.map ((fun v => v.category) ∘ za_v ad)) = rest.map (fun v => v.category) := List.map_congr_left (fun v _ => za_cat ad v)
    rw [this]
    omega
  · exact hcont _ h ad H locs hT (fun _ _ => rfl) (fun _ => rfl) (Nat.le_refl _) hP hD hS (fun _ _ _ => ⟨rfl, rfl⟩)
end ZROWO
-- the entry
def zlc (nL : Nat) (as : List Value) : zLc := as.map some ++ List.replicate (nL - as.length) none
theorem zl_entry {as : List Value} {ad : Nat → Nat} {n : Nat} (hc : ∀ v ∈ as, v.category = 1) (hn : as.length ≤ n) :
    zl_has ad ((lg_sl (as.map (za_v ad)) ++ List.replicate (n - (lg_sl (as.map (za_v ad))).length) Slot.unset).toArray) n (zlc n as) := by
  have hsl : lg_sl (as.map (za_v ad)) = as.map (fun v => Slot.val (za_v ad v)) := by
    clear hn
    induction as with
    | nil => rfl
    | cons a r ih =>
      have h1 : (za_v ad a).category = 1 := by rw [za_cat]; exact hc a List.mem_cons_self
      have := ih (fun v hv => hc v (List.mem_cons_of_mem _ hv))
      unfold lg_sl at this ⊢
      simp only [List.map_cons, List.flatMap_cons, this]
      rw [if_neg (by omega)]
      rfl
  have hlen : (lg_sl (as.map (za_v ad))).length = as.length := by rw [hsl, List.length_map]
  obtain ⟨e1, e2, -⟩ := lv_entry (as.map (za_v ad)) (n := n) (by rw [hlen]; exact hn)
  refine ⟨⟨e1, by simp [zlc]; omega⟩, e2, fun i v hi => ?_⟩
  unfold zlc at hi
  rw [List.getElem?_append] at hi
  by_cases hl : i < as.length
  · rw [if_pos (by rw [List.length_map]; exact hl), List.getElem?_map] at hi
    cases ha : as[i]? with
    | none => rw [ha] at hi; cases hi
    | some w =>
      rw [ha] at hi
      have hwv : w = v := by
        have := Option.some.inj hi
        exact Option.some.inj this
      subst hwv
      refine ⟨?_, hc w (List.mem_of_getElem? ha)⟩
      rw [List.getElem?_toArray, List.getElem?_append, if_pos (by rw [hlen]; exact hl), hsl, List.getElem?_map, ha]
      rfl
  · rw [if_neg (by rw [List.length_map]; exact hl), List.getElem?_replicate] at hi
    split at hi
    · cases hi
    · cases hi
/-- a value that the method may return -/
def znr (ret : Option FieldType) (v : Option Value) : Prop := match ret, v with
  | none, none => True
  | some ty, some (.int x) => narrow ty (.int x) = .int x
  | some (.object _), some (.ref _) => True
  | some (.array _), some (.ref _) => True
  | _, _ => False
def zKK (ret : Option FieldType) (ro : Bool) (mc ms : Nat) (K : zO → zH → Prop) : zO → zH → Bool → Nat → Nat → Prop := fun o h wr k q => (match o with
  | .inl v => (ro = true → wr = false) ∧ k ≤ mc ∧ q ≤ ms ∧ znr ret v
  | .inr _ => True) ∧ K o h
/-- a method's contract out of its abstract walk (no handlers) -/
theorem zC_of {l : Launch} {y : MethodName} {ws ws' : List Cond} {rm : Room} {cl : List vw_C} {ro : Bool} {mc ms : Nat} {T : ClassId → ClassId → zT} {cc : ByteArray} {maxL : Nat} {ret : Option FieldType}
    {G : Nat → Option (Nat × Nat × FieldType × Bool)} {E : ClassId → ClassId → Nat → Nat → Option zEn} {X : Nat → Option (Nat × Nat)} {SL : Nat → Bool} {NW : Nat → Option (Nat × Nat × List Value)} {CS : Nat → Option Int32} {ctor : Bool}
    (hl : l.stackTraces = false)
    (hy : plainName y.cls = true) (hw : ws = Cond.code y cc maxL ret :: ws') (hrc : rm.cells = mc) (hrs : rm.slots = ms)
    (hG : ∀ idx ci kf ty fin, G idx = some (ci, kf, ty, fin) → zFok ws cl y.cls ctor idx ci kf ty fin) (hctor : ctor = true → y.name = "<init>")
    (hCS : ∀ i v, CS i = some v → Cond.constant y.cls i v ∈ ws) (hNW : ∀ idx ci n fs, NW idx = some (ci, n, fs) → zNok ws cl y.cls idx ci n fs) (hAC : Cond.arrayClass .int ∈ ws)
    (hX : ∀ i ci ic, X i = some (ci, ic) → zXok ws cl y.cls i ci ic ∧ 6 ≤ rm.frames ∧ 100 ≤ rm.locals) (hSL : ∀ j, SL j = true → zSok y.cls j)
    (hE : ∀ (p : Program) (e : Env) (s : State) (m : MethodId) (args : Array Value) (below : List Frame) (meth : Method) (c : Code) (D : va_G) (A : Nat → Prop) (cI cL : ClassId), p.tables.exec = Jvm.exec → c.code = cc → c.maxLocals = maxL → s.vm.findClass y.cls = some m.cls → (∀ w ∈ ws, w.before args s = true) → va_K D cl [(cI, .int), (cL, .long)] s → (∀ q, s.heap.size ≤ q → A q) → zEX A s →
      ∀ kd idx en, E cI cL kd idx = some en → zRow p l e rm s m args below meth c cc D cl A maxL kd idx en)
    (hbody : ∀ cI cL as h K, T cI cL as h K → (∀ v ∈ as, v.category = 1) ∧ as.length ≤ maxL ∧ ∀ Jd, zCl cc G (E cI cL) X SL NW CS (fun _ _ => none) none cI cL mc ms ctor (zKK ret ro mc ms K) Jd → Jd 0 (zlc maxL as) [] h false 0 0) :
    zC l y ws rm cl ro mc ms T := by
  subst hrc
  subst hrs
  intro D cI cL as h K ad0 sz hT
  obtain ⟨hcat, hlen, hbody⟩ := hbody cI cL as h K hT
  refine zMet.ofW (cc := cc) (maxL := maxL) (ret := ret) hy hw ?_
  intro p e s m args below meth c s₁ B hml hem hv
  obtain ⟨rfl, hsz, hP, hK, hD0, hEX⟩ := hv
  have hx := B.exec
  have hb := B.bytes
  have hr := B.returns
  have hts := atoms_spec (ws := ws) B.pre
  have hown : s.vm.findClass y.cls = some m.cls := findClass_of_methodNamed B.named
  have hlocks := B.notSynchronized
  have hname : meth.name = y.name := (name_of_methodNamed B.named B.method).1
  subst hsz
  have hD := hD0.self (sz := s.heap.size)
  have hA : ∀ q : Nat, s.heap.size ≤ q → va_A (za_w ad0 h) s.heap.size q := fun q h => Or.inr h
  have hlt : ∀ q, va_A (za_w ad0 h) s.heap.size q → True := fun _ _ => trivial
  rw [lg_entry_eq]
  refine hbody (zJ p l e rm s m (as.map (za_v ad0)).toArray below meth c (zMQ below (zQ D cl K ad0 h s.heap.size ro) (as.map (za_v ad0)).toArray s rm.cells rm.slots (fun q => ro = false ∧ va_A (za_w ad0 h) s.heap.size q)) D cl (va_A (za_w ad0 h) s.heap.size) maxL h.length ad0) ?_ ad0 s.heap [] _ ⟨hP, hD, va_S.rf, zl_entry hcat hlen, fun _ => ⟨rfl, rfl⟩, fun _ _ => rfl, Nat.le_refl _, fun _ => rfl⟩
  intro rec hrec pc lc st h' wr k q hw'
  have hfr : ∀ {ad : Nat → Nat} {H : Heap} {locs : List Loc} {ls : Array Slot} {lc : zLc} {h1 : zH} {wr : Bool}, zS s D cl (va_A (za_w ad0 h) s.heap.size) maxL h.length ad0 lc h1 wr ad H locs ls → (ro = true → wr = false) → ∀ q ∈ locs, ro = false ∧ va_A (za_w ad0 h) s.heap.size q.base := by
    intro ad H locs ls lc h1 wr hS hro q hq
    cases ro with
    | true =>
      have := (hS.2.2.2.2.1 (hro rfl)).2
      rw [this] at hq
      cases hq
    | false => exact ⟨rfl, hS.2.2.1.2.2 q hq⟩
  have hqv : ∀ {ad : Nat → Nat} {H : Heap} {locs : List Loc} {ls : Array Slot} {lc : zLc} {h1 : zH} {wr : Bool} {v : Option Value}, zS s D cl (va_A (za_w ad0 h) s.heap.size) maxL h.length ad0 lc h1 wr ad H locs ls → (ro = true → wr = false) → K (.inl v) h1 → ∀ t : State, t.heap = H → zQ D cl K ad0 h s.heap.size ro (as.map (za_v ad0)).toArray s (.returned (v.map (za_v ad))) t := by
    intro ad H locs ls lc h1 wr v hS hro hKv t ht
    refine ⟨⟨ad, .inl v, h1, hKv, hS.2.2.2.2.2.1, hS.2.2.2.2.2.2.2, hS.2.2.2.2.2.2.1, by rw [ht]; exact hS.1, hS.2.1, rfl, fun z => ?_⟩, hS.2.2.1.F ht⟩
    rw [ht]
    exact (hS.2.2.2.2.1 (hro z)).1
  refine zwI_sound (R := rm) (own := y.cls) (Ts := ws) hx hb hown hts hK hA hG (fun z => hname.trans (hctor z)) hCS hNW hAC (hE p e s m _ below meth c D _ cI cL hx hb hml hown hts hK hA hEX) (fun pc ci hp z => by cases z) ?_ ?_ ?_ ?_ (fun L xs z => by cases z) hrec hw'
  · intro i ci ic hXi pc j h1 k q st lc hcs d0 k1 k2 d1 d2 d3 d4 d5 hKK ad H locs ls hS
    obtain ⟨rfl, rfl⟩ := hS.2.2.2.2.1 rfl
    obtain ⟨hX1, hX2, hX3⟩ := hX i ci ic hXi
    have hcs' : ((st.map (za_v ad)).map fun v => v.category).sum ≤ 8 := by
      rw [List.map_map]
      have : (st.map ((fun v => v.category) ∘ za_v ad)) = st.map (fun v => v.category) := List.map_congr_left (fun v _ => za_cat ad v)
      rw [this]; exact hcs
    refine z_throw hX1 (hSL j d3) hx hb hown hts hK hEX hl hem (by rw [hml]; exact hS.2.2.2.1.1.1) hlocks hX2 (by omega) k1 k2 (Nat.le_refl _) (Nat.le_refl _) d0 d1 d2 d4 d5 ?_
    intro a t hat hkeep hge
    exact ⟨⟨ad, .inr ci, h1, hKK.2, hS.2.2.2.2.2.1, hS.2.2.2.2.2.2.2, hS.2.2.2.2.2.2.1, hS.1.kept (fun i x hi => hkeep _ (hS.1 i x hi).lt), hS.2.1, a, rfl, hat⟩, hge, fun z h1 _ => hkeep z h1⟩
  · intro x h1 wr k q pc lc hKK hd ad H locs ls hS
    obtain ⟨⟨g1, g2, g3, g4⟩, g5⟩ := hKK
    cases ret with
    | none => exact g4.elim
    | some ty =>
      refine W.widen g2 g3 (z_iret hx hb hr ?_ (fun t ht _ => hqv hS g1 g5 t ht) (hfr hS g1) hd hlocks)
      cases ty <;> exact g4
  · intro x h1 wr k q pc lc hKK hd ad H locs ls hS
    obtain ⟨⟨g1, g2, g3, g4⟩, g5⟩ := hKK
    cases ret with
    | none => exact g4.elim
    | some ty =>
      refine W.widen g2 g3 (z_aret hx hb hr ?_ (Or.inr ⟨_, rfl⟩) (fun t ht _ => hqv hS g1 g5 t ht) (hfr hS g1) hd hlocks)
      cases ty <;> first | exact g4.elim | exact Or.inl ⟨_, rfl⟩ | exact Or.inr ⟨_, rfl⟩
  · intro h1 wr k q pc lc hKK hd ad H locs ls hS
    obtain ⟨⟨g1, g2, g3, g4⟩, g5⟩ := hKK
    cases ret with
    | some ty => cases ty <;> exact g4.elim
    | none => exact W.widen g2 g3 (z_vret hx hb hr (fun t ht _ => hqv hS g1 g5 t ht) (hfr hS g1) hd hlocks)

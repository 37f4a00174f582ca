/-! methods that catch -/
def zHok (Ts : List Cond) (cl : List vw_C) (own : String) (hh : List (Nat × Nat × Nat × Nat)) (pc ci hp : Nat) : Prop :=
  ∃ (E : String) (T0 : u_T) (pre suf : List ExceptionTableEntry) (x : ExceptionTableEntry), cl[ci]? = some (E, T0, 0) ∧ tableOf hh = pre ++ x :: suf ∧ (∀ z ∈ pre, covers z pc = false ∨ (z.catchType ≠ 0 ∧ E = "java/lang/IndexOutOfBoundsException" ∧ Cond.classLink own z.catchType "java/lang/IllegalArgumentException" ∈ Ts)) ∧ covers x pc = true ∧ x.catchType ≠ 0 ∧ Cond.classLink own x.catchType E ∈ Ts ∧ Cond.castable E E ∈ Ts ∧ x.handlerPc = hp
theorem zC_ofH {l : Launch} {y : MethodName} {ws ws' : List Cond} {rm : Room} {cl : List vw_C} {ro : Bool} {mc ms : Nat} {T : ClassId → ClassId → zT} {cc : ByteArray} {maxL : Nat} {ret : Option FieldType}
    {G : Nat → Option (Nat × Nat × FieldType × Bool)} {E : ClassId → ClassId → Nat → Nat → Option zEn} {HD : Nat → Nat → Option Nat} {hh : List (Nat × Nat × Nat × Nat)} {SL : Nat → Bool} {NW : Nat → Option (Nat × Nat × List Value)} {CS : Nat → Option Int32} {ctor : Bool}
    (hl : l.stackTraces = false)
    (hy : plainName y.cls = true) (hw : ws = Cond.codeWith y cc maxL ret hh :: ws') (hrc : rm.cells = mc) (hrs : rm.slots = ms)
    (hG : ∀ idx ci kf ty fin, G idx = some (ci, kf, ty, fin) → zFok ws cl y.cls ctor idx ci kf ty fin) (hctor : ctor = true → y.name = "<init>")
    (hCS : ∀ i v, CS i = some v → Cond.constant y.cls i v ∈ ws) (hNW : ∀ idx ci n fs, NW idx = some (ci, n, fs) → zNok ws cl y.cls idx ci n fs) (hAC : Cond.arrayClass .int ∈ ws)
    (hHD : ∀ pc ci hp, HD pc ci = some hp → zHok ws cl y.cls hh pc ci hp) (hSL : ∀ j, SL j = true → zSok y.cls j)
    (hE : ∀ (p : Program) (e : Env) (s : State) (m : MethodId) (args : Array Value) (below : List Frame) (meth : Method) (c : Code) (D : va_G) (A : Nat → Prop) (cI cL : ClassId), p.tables.exec = Jvm.exec → c.code = cc → c.maxLocals = maxL → s.vm.findClass y.cls = some m.cls → (∀ w ∈ ws, w.before args s = true) → va_K D cl [(cI, .int), (cL, .long)] s → (∀ q, s.heap.size ≤ q → A q) → zEX A s →
      ∀ kd idx en, E cI cL kd idx = some en → zRow p l e rm s m args below meth c cc D cl A maxL kd idx en)
    (hbody : ∀ cI cL as h K, T cI cL as h K → (∀ v ∈ as, v.category = 1) ∧ as.length ≤ maxL ∧ ∀ Jd, zCl cc G (E cI cL) (fun _ => none) SL NW CS HD none cI cL mc ms ctor (zKK ret ro mc ms K) Jd → Jd 0 (zlc maxL as) [] h false 0 0) :
    zC l y ws rm cl ro mc ms T := by
  subst hrc
  subst hrs
  intro D cI cL as h K ad0 sz hT
  obtain ⟨hcat, hlen, hbody⟩ := hbody cI cL as h K hT
  refine zMet.ofWH (hh := hh) (cc := cc) (maxL := maxL) (ret := ret) hy hw ?_
  intro p e s m args below meth c s₁ B hml hem hv
  obtain ⟨rfl, hsz, hP, hK, hD0, hEX⟩ := hv
  have hx := B.exec
  have hb := B.bytes
  have hr := B.returns
  have hts := atoms_spec (ws := ws) B.pre
  have hown : s.vm.findClass y.cls = some m.cls := findClass_of_methodNamed B.named
  have hlocks := B.notSynchronized
  have hname : meth.name = y.name := (name_of_methodNamed B.named B.method).1
  subst hsz
  have hD := hD0.self (sz := s.heap.size)
  have hA : ∀ q : Nat, s.heap.size ≤ q → va_A (za_w ad0 h) s.heap.size q := fun q h => Or.inr h
  have hlt : ∀ q, va_A (za_w ad0 h) s.heap.size q → True := fun _ _ => trivial
  rw [lg_entry_eq]
  refine hbody (zJ p l e rm s m (as.map (za_v ad0)).toArray below meth c (zMQ below (zQ D cl K ad0 h s.heap.size ro) (as.map (za_v ad0)).toArray s rm.cells rm.slots (fun q => ro = false ∧ va_A (za_w ad0 h) s.heap.size q)) D cl (va_A (za_w ad0 h) s.heap.size) maxL h.length ad0) ?_ ad0 s.heap [] _ ⟨hP, hD, va_S.rf, zl_entry hcat hlen, fun _ => ⟨rfl, rfl⟩, fun _ _ => rfl, Nat.le_refl _, fun _ => rfl⟩
  intro rec hrec pc lc st h' wr k q hw'
  have hfr : ∀ {ad : Nat → Nat} {H : Heap} {locs : List Loc} {ls : Array Slot} {lc : zLc} {h1 : zH} {wr : Bool}, zS s D cl (va_A (za_w ad0 h) s.heap.size) maxL h.length ad0 lc h1 wr ad H locs ls → (ro = true → wr = false) → ∀ q ∈ locs, ro = false ∧ va_A (za_w ad0 h) s.heap.size q.base := by
    intro ad H locs ls lc h1 wr hS hro q hq
    cases ro with
    | true =>
      have := (hS.2.2.2.2.1 (hro rfl)).2
      rw [this] at hq
      cases hq
    | false => exact ⟨rfl, hS.2.2.1.2.2 q hq⟩
  have hqv : ∀ {ad : Nat → Nat} {H : Heap} {locs : List Loc} {ls : Array Slot} {lc : zLc} {h1 : zH} {wr : Bool} {v : Option Value}, zS s D cl (va_A (za_w ad0 h) s.heap.size) maxL h.length ad0 lc h1 wr ad H locs ls → (ro = true → wr = false) → K (.inl v) h1 → ∀ t : State, t.heap = H → zQ D cl K ad0 h s.heap.size ro (as.map (za_v ad0)).toArray s (.returned (v.map (za_v ad))) t := by
    intro ad H locs ls lc h1 wr v hS hro hKv t ht
    refine ⟨⟨ad, .inl v, h1, hKv, hS.2.2.2.2.2.1, hS.2.2.2.2.2.2.2, hS.2.2.2.2.2.2.1, by rw [ht]; exact hS.1, hS.2.1, rfl, fun z => ?_⟩, hS.2.2.1.F ht⟩
    rw [ht]
    exact (hS.2.2.2.2.1 (hro z)).1
  refine zwI_sound (R := rm) (own := y.cls) (Ts := ws) hx hb hown hts hK hA hG (fun z => hname.trans (hctor z)) hCS hNW hAC (hE p e s m _ below meth c D _ cI cL hx hb hml hown hts hK hA hEX) ?_ (fun i ci ic z => by cases z) ?_ ?_ ?_ (fun L xs z => by cases z) hrec hw'
  · intro pc ci hp hz Q H locs k q a ls rest hat hW
    obtain ⟨E, T0, pre, suf, x, z1, z2, z3, z4, z5, z6, z7, rfl⟩ := hHD pc ci hp hz
    obtain ⟨C, c1, ce, c2, c3, c4, -⟩ := hat
    cases Option.some.inj (z1.symm.trans c1)
    have hcl := (hK.1 ci _ z1).2.1
    refine vx_catch hown pre x suf (by rw [hem]; exact z2) (fun z hz => ?_) z4 z5 (hts _ z6) (hts _ z7) c2 c4 (by rw [c3]; exact hcl) hW
    rcases z3 z hz with y | ⟨y1, y2, y3⟩
    · exact Or.inl y
    · exact Or.inr ⟨y1, _, hts _ y3, by rw [y2]; exact hEX.2.2.2⟩
  · intro x h1 wr k q pc lc hKK hd ad H locs ls hS
    obtain ⟨⟨g1, g2, g3, g4⟩, g5⟩ := hKK
    cases ret with
    | none => exact g4.elim
    | some ty =>
      refine W.widen g2 g3 (z_iret hx hb hr ?_ (fun t ht _ => hqv hS g1 g5 t ht) (hfr hS g1) hd hlocks)
      cases ty <;> exact g4
  · intro x h1 wr k q pc lc hKK hd ad H locs ls hS
    obtain ⟨⟨g1, g2, g3, g4⟩, g5⟩ := hKK
    cases ret with
    | none => exact g4.elim
    | some ty =>
      refine W.widen g2 g3 (z_aret hx hb hr ?_ (Or.inr ⟨_, rfl⟩) (fun t ht _ => hqv hS g1 g5 t ht) (hfr hS g1) hd hlocks)
      cases ty <;> first | exact g4.elim | exact Or.inl ⟨_, rfl⟩ | exact Or.inr ⟨_, rfl⟩
  · intro h1 wr k q pc lc hKK hd ad H locs ls hS
    obtain ⟨⟨g1, g2, g3, g4⟩, g5⟩ := hKK
    cases ret with
    | some ty => cases ty <;> exact g4.elim
    | none => exact W.widen g2 g3 (z_vret hx hb hr (fun t ht _ => hqv hS g1 g5 t ht) (hfr hS g1) hd hlocks)
def zca (rec : zRc) (d : Except DecodeError (Instr × Nat)) (hp : Nat) (lc : zLc) (h : zH) (k q : Nat) : Prop := match d with
  | .ok (.astore_n j, 1) => j.val < lc.length ∧ rec (hp + 1) (lc.set j.val none) [] h true k q
  | .ok (.astore j, 2) => j < lc.length ∧ rec (hp + 2) (lc.set j none) [] h true k q
  | _ => False
theorem zcat_k (cc : ByteArray) (rec : zRc) (hp : Nat) (lc : zLc) (h : zH) (k q : Nat) : zcat cc rec (some hp) lc h k q = zca rec (decode cc hp) hp lc h k q := propext Iff.rfl
theorem zca_n (rec : zRc) (j : Fin 4) (hp : Nat) (lc : zLc) (h : zH) (k q : Nat) : zca rec (.ok (.astore_n j, 1)) hp lc h k q = (j.val < lc.length ∧ rec (hp + 1) (lc.set j.val none) [] h true k q) := propext Iff.rfl
theorem zca_s (rec : zRc) (j : Nat) (hp : Nat) (lc : zLc) (h : zH) (k q : Nat) : zca rec (.ok (.astore j, 2)) hp lc h k q = (j < lc.length ∧ rec (hp + 2) (lc.set j none) [] h true k q) := propext Iff.rfl
theorem kk_cast : ∀ w ∈ [Cond.castable "java/lang/IllegalArgumentException" "java/lang/IllegalArgumentException", Cond.castable "java/lang/IndexOutOfBoundsException" "java/lang/IndexOutOfBoundsException"], w ∈ wsG := wsG_all (by decide +kernel)

/-- the tables' words that survive the warming of the tables -/
def zgood (w : Cond) : Bool := match w with
  | .fieldLinkNest .. => true
  | .methodLinkNest .. => true
  | .declares _ => true
  | .castable .. => true
  | w => goodWord w
theorem zgood_w {w : Cond} (hg : zgood w = true) {args a' : Array Value} {s U : State} (hW : s.WarmedH U.vm) (h : w.before args s = true) : w.before a' U = true := by
  unfold zgood at hg
  split at hg
  · exact va_Nw.use rfl (va_Nw.warmF hW (va_Nw.of rfl h))
  · exact va_Nw.use rfl (va_Nw.warmM hW (va_Nw.of rfl h))
  · exact va_Nw.use rfl (va_Nw.warmD hW (va_Nw.of rfl h))
  · exact va_Nw.use rfl (va_Nw.warmC hW (va_Nw.of rfl h))
  · exact word_at hW (good_of_word hg) h
/-- what a method's code word says, with a handler table or without -/
def zcw (w : Cond) (y : MethodName) (maxL : Nat) : Prop := (∃ bytes ret, w = Cond.code y bytes maxL ret) ∨ ∃ bytes ret hh, w = Cond.codeWith y bytes maxL ret hh
theorem zcw_s {w : Cond} {y : MethodName} {maxL : Nat} (h : zcw w y maxL) {args : Array Value} {s : State} (hw : w.before args s = true) :
    ∃ (mk : MethodId) (methY : Method) (cY : Code), s.methodNamed? y = some mk ∧ s.vm.method? mk = some methY ∧ methY.code = some cY ∧ cY.maxLocals = maxL ∧ parseMethodDescriptor y.desc = some methY.sig := by
  rcases h with ⟨bytes, ret, rfl⟩ | ⟨bytes, ret, hh, rfl⟩
  · obtain ⟨mk, hnamed⟩ := Cond.code_named hw
    obtain ⟨methM, cM, h1, h2, -, h4, -, -, -, h8⟩ := Cond.code_spec hnamed hw
    exact ⟨mk, methM, cM, hnamed, h1, h2, h4, h8⟩
  · obtain ⟨m9, meth, c, hn9, h1, h2, h3, h4, -, h5, h6, h7⟩ := Cond.codeWith_spec hw
    exact ⟨m9, meth, c, hn9, h1, h2, h4, h7⟩
section ZROWS
variable {p : Program} {l : Launch} {e : Env} {R : Room} {s : State} {m : MethodId} {args : Array Value} {below : List Frame} {meth : Method} {c : Code}
variable {cc : ByteArray} {D : va_G} {cl : List vw_C} {A : Nat → Prop} {nL : Nat} {own : String} {cI cL : ClassId} {Ts : List Cond}
theorem zRow_S {y : MethodName} {ws ws' : List Cond} {cw : Cond} {rm : Room} {fx ro : Bool} {mc ms maxL na idx : Nat} {T : ClassId → ClassId → zT} (hC : zC l y ws rm cl ro mc ms T) (hw : ws = cw :: ws') (hcw : zcw cw y maxL) (hx : p.tables.exec = Jvm.exec) (hb : c.code = cc) (hml : c.maxLocals = nL) (hown : s.vm.findClass own = some m.cls) (hts : ∀ w ∈ Ts, w.before args s = true) (hK : va_K D cl [(cI, .int), (cL, .long)] s) (hA : ∀ q, s.heap.size ≤ q → A q) (hEX : zEX A s)
    (hin : ∀ w ∈ ws, w ∈ Ts ∧ zgood w = true) (hini : Cond.initialized y.cls ∈ Ts) (hst : Cond.static y ∈ Ts) (hlk : Cond.methodLink own idx y ∈ Ts ∨ ∃ host, Cond.methodLinkNest own idx y host ∈ Ts)
    (hy : y.cls ≠ "java/lang/invoke/MethodHandle" ∧ y.cls ≠ "java/lang/invoke/VarHandle") (hna : (parseMethodDescriptor y.desc).map (fun d => d.parameters.length) = some na)
    (hR : rm.frames + 1 ≤ R.frames ∧ 8 + (maxL + 11) + rm.locals ≤ R.locals) (hrc : rm.cells = mc) (hrs : rm.slots = ms) :
    zRow p l e R s m args below meth c cc D cl A nL 0 idx (na, none, fx, ro, mc, ms, T cI cL) := by
  intro Q pc ls as rest h ad H locs k q K' hd hlen hrv hsz hcat hk hq hP hD hS hT hcont T0 hT0 X
  have hcode := hts cw (hin cw (by rw [hw]; exact List.mem_cons_self)).1
  obtain ⟨mk, methY, cY, hn, hmY, hcY, hlY, hsig⟩ := zcw_s hcw hcode
  have hstatic : methY.isStatic = true := Cond.static_spec hn hmY (hts _ hst)
  obtain ⟨kP, hkP, -⟩ := className_of_methodNamed hn
  have hinitP : kP.init = .initialized := Cond.initialized_spec (findClass_of_methodNamed hn) hkP (hts _ hini)
  have hlen' : (as.map (za_v ad)).length = methY.sig.parameters.length := by
    rw [hsig] at hna
    have := Option.some.inj hna
    rw [List.length_map, hlen]; exact this.symm
  have hstk : (F0 m pc ls ((as.reverse ++ rest).map (za_v ad))).stack = (as.map (za_v ad)).reverse ++ rest.map (za_v ad) := by
    show (as.reverse ++ rest).map (za_v ad) = _
    rw [List.map_append, List.map_reverse]
  have hgo := z_row hC hx hb hml hK hA hEX (fun w hw a' U hW => zgood_w (hin w hw).2 hW (hts w (hin w hw).1)) (fun a' U hW => zgood_w rfl hW (hts _ hini)) hR.1 hR.2 hrc hrs hn hmY hcY hlY hd hsz hcat hk hq hP hD hS hT hcont T0 hT0 X
  rcases hlk with hlk | ⟨host, hlk⟩
  · obtain ⟨vm₁, X₁, hstep₁⟩ := X.invokestatic hx hown (hts _ hlk) hn hmY hstatic hkP hinitP hy (g := F0 m pc ls ((as.reverse ++ rest).map (za_v ad))) rfl (argsL := as.map (za_v ad)) (rest := rest.map (za_v ad)) hlen' hstk (by rw [hb]; exact hd)
    exact hgo vm₁ X₁ _ hstep₁
  · obtain ⟨vm₁, X₁, hstep₁⟩ := X.invokestaticNest hx hown (hts _ hlk) hn hmY hstatic hkP hinitP hy (g := F0 m pc ls ((as.reverse ++ rest).map (za_v ad))) rfl (argsL := as.map (za_v ad)) (rest := rest.map (za_v ad)) hlen' hstk (by rw [hb]; exact hd)
    exact hgo vm₁ X₁ _ hstep₁
theorem zRow_V {y : MethodName} {ws ws' : List Cond} {cw : Cond} {rm : Room} {fx ro : Bool} {mc ms maxL na idx ci N : Nat} {Tt : u_T} {T : ClassId → ClassId → zT} (hC : zC l y ws rm cl ro mc ms T) (hw : ws = cw :: ws') (hcw : zcw cw y maxL) (hx : p.tables.exec = Jvm.exec) (hb : c.code = cc) (hml : c.maxLocals = nL) (hown : s.vm.findClass own = some m.cls) (hts : ∀ w ∈ Ts, w.before args s = true) (hK : va_K D cl [(cI, .int), (cL, .long)] s) (hA : ∀ q, s.heap.size ≤ q → A q) (hEX : zEX A s)
    (hin : ∀ w ∈ ws, w ∈ Ts ∧ zgood w = true) (hini : Cond.initialized y.cls ∈ Ts) (hst : Cond.instanceMethod y ∈ Ts) (hsel : Cond.selects y.cls y y ∈ Ts) (hcl : cl[ci]? = some (y.cls, Tt, N)) (hlk : Cond.methodLink own idx y ∈ Ts ∨ ∃ host, Cond.methodLinkNest own idx y host ∈ Ts)
    (hy : y.cls ≠ "java/lang/invoke/MethodHandle" ∧ y.cls ≠ "java/lang/invoke/VarHandle") (hna : (parseMethodDescriptor y.desc).map (fun d => d.parameters.length) = some na)
    (hR : rm.frames + 1 ≤ R.frames ∧ 8 + (maxL + 11) + rm.locals ≤ R.locals) (hrc : rm.cells = mc) (hrs : rm.slots = ms) :
    zRow p l e R s m args below meth c cc D cl A nL 1 idx (na + 1, some ci, fx, ro, mc, ms, T cI cL) := by
  intro Q pc ls as rest h ad H locs k q K' hd hlen hrv hsz hcat hk hq hP hD hS hT hcont T0 hT0 X
  have hcode := hts cw (hin cw (by rw [hw]; exact List.mem_cons_self)).1
  obtain ⟨mk, methY, cY, hn, hmY, hcY, hlY, hsig⟩ := zcw_s hcw hcode
  obtain ⟨mk', methM, hn', hmethM, hstM, habM⟩ := Cond.instanceMethod_spec (hts _ hst)
  cases hn.symm.trans hn'
  cases hmY.symm.trans hmethM
  match as, hlen, hrv with
  | .ref i :: as, hlen, hrv =>
  obtain ⟨fs, hi, -⟩ := zob_s hrv
  obtain ⟨cellB, hcB, hoB, hclB⟩ := va_recv hK hP hcl (za_at hi)
  obtain ⟨c2, r2, m2, q1, q2, q3, q4, kP, hkP, hkPi⟩ := Cond.selects_spec (hts _ hsel)
  cases hclB.symm.trans q1
  cases (State.methodFound?_of_named hn hy).symm.trans q2
  cases hn.symm.trans q3
  have hselP : selectMethod e.platform s.vm cellB.cls mk = .method mk := by rw [Launch.admits_selectMethod X.admits]; exact q4
  have hlen' : (as.map (za_v ad)).length = methY.sig.parameters.length := by
    rw [hsig] at hna
    have := Option.some.inj hna
    have h9 : (Value.ref i :: as).length = na + 1 := hlen
    have h8 : methY.sig.parameters.length = na := this
    rw [List.length_map, h8]
    simpa using h9
  have hstk : (F0 m pc ls (((Value.ref i :: as).reverse ++ rest).map (za_v ad))).stack = (as.map (za_v ad)).reverse ++ .ref (ad i) :: rest.map (za_v ad) := by
    show ((Value.ref i :: as).reverse ++ rest).map (za_v ad) = _
    simp [List.map_append, List.map_reverse, za_v]
  have hgo := z_row hC hx hb hml hK hA hEX (fun w hw a' U hW => zgood_w (hin w hw).2 hW (hts w (hin w hw).1)) (fun a' U hW => zgood_w rfl hW (hts _ hini)) hR.1 hR.2 hrc hrs hn hmY hcY hlY hd hsz hcat hk hq hP hD hS hT hcont T0 hT0 X
  rcases hlk with hlk | ⟨host, hlk⟩
  · obtain ⟨vm₁, X₁, hstep₁⟩ := X.invokevirtual hx hown (hts _ hlk) hn hmY hstM hkP hkPi hy (a := ad i) (cell := cellB) (by rw [hT0]; exact hcB) (fun z h => by rw [h] at hoB; cases hoB) hselP hmY habM hkP hkPi (g := F0 m pc ls (((Value.ref i :: as).reverse ++ rest).map (za_v ad))) rfl (argsL := as.map (za_v ad)) (rest := rest.map (za_v ad)) hlen' hstk (by rw [hb]; exact hd)
    exact hgo vm₁ X₁ _ hstep₁
  · obtain ⟨vm₁, X₁, hstep₁⟩ := X.invokevirtualNest hx hown (hts _ hlk) hn hmY hstM hkP hkPi hy (a := ad i) (cell := cellB) (by rw [hT0]; exact hcB) (fun z h => by rw [h] at hoB; cases hoB) hselP hmY habM hkP hkPi (g := F0 m pc ls (((Value.ref i :: as).reverse ++ rest).map (za_v ad))) rfl (argsL := as.map (za_v ad)) (rest := rest.map (za_v ad)) hlen' hstk (by rw [hb]; exact hd)
    exact hgo vm₁ X₁ _ hstep₁
theorem zRow_I {y : MethodName} {ws ws' : List Cond} {bytes : ByteArray} {rm : Room} {fx ro : Bool} {mc ms maxL na idx : Nat} {T : ClassId → ClassId → zT} (hC : zC l y ws rm cl ro mc ms T) (hw : ws = Cond.code y bytes maxL none :: ws') (hx : p.tables.exec = Jvm.exec) (hb : c.code = cc) (hml : c.maxLocals = nL) (hown : s.vm.findClass own = some m.cls) (hts : ∀ w ∈ Ts, w.before args s = true) (hK : va_K D cl [(cI, .int), (cL, .long)] s) (hA : ∀ q, s.heap.size ≤ q → A q) (hEX : zEX A s)
    (hin : ∀ w ∈ ws, w ∈ Ts ∧ zgood w = true) (hini : Cond.initialized y.cls ∈ Ts) (hst : Cond.instanceMethod y ∈ Ts) (hlk : Cond.methodLink own idx y ∈ Ts ∨ ∃ host, Cond.methodLinkNest own idx y host ∈ Ts) (hyn : y.name = "<init>")
    (hy : y.cls ≠ "java/lang/invoke/MethodHandle" ∧ y.cls ≠ "java/lang/invoke/VarHandle") (hna : (parseMethodDescriptor y.desc).map (fun d => d.parameters.length) = some na) (hTr : ∀ as h K, T cI cL as h K → ∃ i as', as = .ref i :: as')
    (hR : rm.frames + 1 ≤ R.frames ∧ 8 + (maxL + 11) + rm.locals ≤ R.locals) (hrc : rm.cells = mc) (hrs : rm.slots = ms) :
    zRow p l e R s m args below meth c cc D cl A nL 2 idx (na + 1, none, fx, ro, mc, ms, T cI cL) := by
  intro Q pc ls as rest h ad H locs k q K' hd hlen hrv hsz hcat hk hq hP hD hS hT hcont T0 hT0 X
  have hcode : (Cond.code y bytes maxL none).before args s = true := hts _ (hin _ (by rw [hw]; exact List.mem_cons_self)).1
  obtain ⟨mk, methY, cY, hn, hmY, hcY, hlY, hsig⟩ := zcw_s (Or.inl ⟨bytes, none, rfl⟩) hcode
  obtain ⟨i, as', rfl⟩ := hTr _ _ _ hT
  have hlen' : ∀ sig, parseMethodDescriptor y.desc = some sig → (as'.map (za_v ad)).length = sig.parameters.length := by
    intro sig hs1
    rw [hs1] at hna
    have := Option.some.inj hna
    have h9 : (Value.ref i :: as').length = na + 1 := hlen
    have h8 : sig.parameters.length = na := this
    rw [List.length_map, h8]
    simpa using h9
  have hstk : (F0 m pc ls (((Value.ref i :: as').reverse ++ rest).map (za_v ad))).stack = (as'.map (za_v ad)).reverse ++ .ref (ad i) :: rest.map (za_v ad) := by
    show ((Value.ref i :: as').reverse ++ rest).map (za_v ad) = _
    simp [List.map_append, List.map_reverse, za_v]
  have hpl : e.platform.magicAccessors = ({} : Platform).magicAccessors := by rw [X.admits.platform]
  have hgo := z_row hC hx hb hml hK hA hEX (fun w hw a' U hW => zgood_w (hin w hw).2 hW (hts w (hin w hw).1)) (fun a' U hW => zgood_w rfl hW (hts _ hini)) hR.1 hR.2 hrc hrs hn hmY hcY hlY hd hsz hcat hk hq hP hD hS hT hcont T0 hT0 X
  rcases hlk with hlk | ⟨host, hlk⟩
  · obtain ⟨mk', methM, cM, kP, vm₁, hn', hmethM, hcodeM, -, hlocalsM, -, hkP, -, hW₁, hstep₁⟩ := Steps.initColdArgs (e := e) X.here hx X.warmed hpl hown hyn hy (hts _ hlk) (hts _ hst) hcode (f := F0 m pc ls (((Value.ref i :: as').reverse ++ rest).map (za_v ad))) rfl hlen' hstk (by rw [hb]; exact hd)
    cases hn.symm.trans hn'
    exact hgo vm₁ (X.noted hW₁) _ hstep₁
  · obtain ⟨mk', methM, cM, kP, vm₁, hn', hmethM, hcodeM, -, hlocalsM, -, hkP, -, hW₁, hstep₁⟩ := Steps.initColdArgsNest (e := e) X.here hx X.warmed hpl hown hyn hy (hts _ hlk) (hts _ hst) hcode (f := F0 m pc ls (((Value.ref i :: as').reverse ++ rest).map (za_v ad))) rfl hlen' hstk (by rw [hb]; exact hd)
    cases hn.symm.trans hn'
    exact hgo vm₁ (X.noted hW₁) _ hstep₁
end ZROWS

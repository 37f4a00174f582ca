section
def lw_okq (q : MethodName × Nat) : Prop := (q.1.cls ≠ "java/lang/invoke/MethodHandle" ∧ q.1.cls ≠ "java/lang/invoke/VarHandle") ∧ Cond.instantiable q.1.cls q.2 ∈ tables_1 ∧ Cond.privateMethod q.1 ∈ tables_1 ∧ Cond.instanceMethod q.1 ∈ tables_1
theorem lw_p0 : lw_okq (⟨"java/lang/Throwable", "fillInStackTrace", "(I)Ljava/lang/Throwable;"⟩, 6) := ⟨⟨by decide +kernel, by decide +kernel⟩, List.mem_of_getElem? (i := 250) (by decide +kernel), List.mem_of_getElem? (i := 248) (by decide +kernel), List.mem_of_getElem? (i := 249) (by decide +kernel)⟩
theorem lw_p1 : lw_okq (⟨"PlaceTests$Frame", "begin", "(IIII)V"⟩, 9) := ⟨⟨by decide +kernel, by decide +kernel⟩, List.mem_of_getElem? (i := 23) (by decide +kernel), List.mem_of_getElem? (i := 281) (by decide +kernel), List.mem_of_getElem? (i := 282) (by decide +kernel)⟩
theorem lw_p2 : lw_okq (⟨"PlaceTests", "ruleOf", "(I)LPlaceTests$StencilRule;"⟩, 10) := ⟨⟨by decide +kernel, by decide +kernel⟩, List.mem_of_getElem? (i := 15) (by decide +kernel), List.mem_of_getElem? (i := 304) (by decide +kernel), List.mem_of_getElem? (i := 305) (by decide +kernel)⟩
theorem lw_p3 : lw_okq (⟨"PlaceTests$Scissors", "hold", "(II)Z"⟩, 4) := ⟨⟨by decide +kernel, by decide +kernel⟩, List.mem_of_getElem? (i := 73) (by decide +kernel), List.mem_of_getElem? (i := 361) (by decide +kernel), List.mem_of_getElem? (i := 362) (by decide +kernel)⟩
theorem lw_p4 : lw_okq (⟨"PlaceTests$Frame", "indexOf", "(II)I"⟩, 9) := ⟨⟨by decide +kernel, by decide +kernel⟩, List.mem_of_getElem? (i := 23) (by decide +kernel), List.mem_of_getElem? (i := 365) (by decide +kernel), List.mem_of_getElem? (i := 366) (by decide +kernel)⟩
theorem lw_p5 : lw_okq (⟨"PlaceTests", "clearPlace", "(IIIII)V"⟩, 10) := ⟨⟨by decide +kernel, by decide +kernel⟩, List.mem_of_getElem? (i := 15) (by decide +kernel), List.mem_of_getElem? (i := 369) (by decide +kernel), List.mem_of_getElem? (i := 370) (by decide +kernel)⟩
theorem lw_p6 : lw_okq (⟨"PlaceTests$Frame", "has", "(II)Z"⟩, 9) := ⟨⟨by decide +kernel, by decide +kernel⟩, List.mem_of_getElem? (i := 23) (by decide +kernel), List.mem_of_getElem? (i := 383) (by decide +kernel), List.mem_of_getElem? (i := 384) (by decide +kernel)⟩
theorem lw_p7 : lw_okq (⟨"PlaceTests", "drawOpen", "(IILPlaceTests$StencilRule;I)I"⟩, 10) := ⟨⟨by decide +kernel, by decide +kernel⟩, List.mem_of_getElem? (i := 15) (by decide +kernel), List.mem_of_getElem? (i := 400) (by decide +kernel), List.mem_of_getElem? (i := 401) (by decide +kernel)⟩
theorem lw_p8 : lw_okq (⟨"PlaceTests$StencilRule", "allows", "(I)Z"⟩, 7) := ⟨⟨by decide +kernel, by decide +kernel⟩, List.mem_of_getElem? (i := 96) (by decide +kernel), List.mem_of_getElem? (i := 404) (by decide +kernel), List.mem_of_getElem? (i := 405) (by decide +kernel)⟩
theorem lw_p9 : lw_okq (⟨"PlaceTests$StencilRule", "changed", "(II)I"⟩, 7) := ⟨⟨by decide +kernel, by decide +kernel⟩, List.mem_of_getElem? (i := 96) (by decide +kernel), List.mem_of_getElem? (i := 411) (by decide +kernel), List.mem_of_getElem? (i := 412) (by decide +kernel)⟩
theorem lw_p10 : lw_okq (⟨"PlaceTests$StencilRule", "afterDeed", "(II)I"⟩, 7) := ⟨⟨by decide +kernel, by decide +kernel⟩, List.mem_of_getElem? (i := 96) (by decide +kernel), List.mem_of_getElem? (i := 415) (by decide +kernel), List.mem_of_getElem? (i := 416) (by decide +kernel)⟩
theorem lw_p11 : lw_okq (⟨"PlaceTests", "newColour", "(II)I"⟩, 10) := ⟨⟨by decide +kernel, by decide +kernel⟩, List.mem_of_getElem? (i := 15) (by decide +kernel), List.mem_of_getElem? (i := 423) (by decide +kernel), List.mem_of_getElem? (i := 424) (by decide +kernel)⟩
theorem lw_p12 : lw_okq (⟨"PlaceTests$Blending", "blended", "(II)I"⟩, 7) := ⟨⟨by decide +kernel, by decide +kernel⟩, List.mem_of_getElem? (i := 128) (by decide +kernel), List.mem_of_getElem? (i := 430) (by decide +kernel), List.mem_of_getElem? (i := 431) (by decide +kernel)⟩
theorem lw_p13 : lw_okq (⟨"PlaceTests$Blending", "blendedChannel", "(III)I"⟩, 7) := ⟨⟨by decide +kernel, by decide +kernel⟩, List.mem_of_getElem? (i := 128) (by decide +kernel), List.mem_of_getElem? (i := 434) (by decide +kernel), List.mem_of_getElem? (i := 435) (by decide +kernel)⟩
theorem lw_p14 : lw_okq (⟨"PlaceTests$Blending", "factor", "(IIII)I"⟩, 7) := ⟨⟨by decide +kernel, by decide +kernel⟩, List.mem_of_getElem? (i := 128) (by decide +kernel), List.mem_of_getElem? (i := 441) (by decide +kernel), List.mem_of_getElem? (i := 442) (by decide +kernel)⟩
theorem lw_p15 : lw_okq (⟨"PlaceTests$Frame", "rowsOf", "(I)[I"⟩, 9) := ⟨⟨by decide +kernel, by decide +kernel⟩, List.mem_of_getElem? (i := 23) (by decide +kernel), List.mem_of_getElem? (i := 475) (by decide +kernel), List.mem_of_getElem? (i := 476) (by decide +kernel)⟩
def lw_privs_1 : List (MethodName × Nat) := [(⟨"java/lang/Throwable", "fillInStackTrace", "(I)Ljava/lang/Throwable;"⟩, 6), (⟨"PlaceTests$Frame", "begin", "(IIII)V"⟩, 9), (⟨"PlaceTests", "ruleOf", "(I)LPlaceTests$StencilRule;"⟩, 10), (⟨"PlaceTests$Scissors", "hold", "(II)Z"⟩, 4), (⟨"PlaceTests$Frame", "indexOf", "(II)I"⟩, 9), (⟨"PlaceTests", "clearPlace", "(IIIII)V"⟩, 10), (⟨"PlaceTests$Frame", "has", "(II)Z"⟩, 9), (⟨"PlaceTests", "drawOpen", "(IILPlaceTests$StencilRule;I)I"⟩, 10), (⟨"PlaceTests$StencilRule", "allows", "(I)Z"⟩, 7), (⟨"PlaceTests$StencilRule", "changed", "(II)I"⟩, 7), (⟨"PlaceTests$StencilRule", "afterDeed", "(II)I"⟩, 7), (⟨"PlaceTests", "newColour", "(II)I"⟩, 10), (⟨"PlaceTests$Blending", "blended", "(II)I"⟩, 7), (⟨"PlaceTests$Blending", "blendedChannel", "(III)I"⟩, 7), (⟨"PlaceTests$Blending", "factor", "(IIII)I"⟩, 7), (⟨"PlaceTests$Frame", "rowsOf", "(I)[I"⟩, 9)]
theorem lw_r1 : ∀ q ∈ lw_privs_1, lw_okq q := List.forall_mem_cons.mpr ⟨lw_p0, List.forall_mem_cons.mpr ⟨lw_p1, List.forall_mem_cons.mpr ⟨lw_p2, List.forall_mem_cons.mpr ⟨lw_p3, List.forall_mem_cons.mpr ⟨lw_p4, List.forall_mem_cons.mpr ⟨lw_p5, List.forall_mem_cons.mpr ⟨lw_p6, List.forall_mem_cons.mpr ⟨lw_p7, List.forall_mem_cons.mpr ⟨lw_p8, List.forall_mem_cons.mpr ⟨lw_p9, List.forall_mem_cons.mpr ⟨lw_p10, List.forall_mem_cons.mpr ⟨lw_p11, List.forall_mem_cons.mpr ⟨lw_p12, List.forall_mem_cons.mpr ⟨lw_p13, List.forall_mem_cons.mpr ⟨lw_p14, List.forall_mem_cons.mpr ⟨lw_p15, fun _ h => absurd h List.not_mem_nil⟩⟩⟩⟩⟩⟩⟩⟩⟩⟩⟩⟩⟩⟩⟩⟩
theorem lw_p16 : lw_okq (⟨"PlaceTestsModel", "refuse", "(ZZ)Z"⟩, 22) := ⟨⟨by decide +kernel, by decide +kernel⟩, List.mem_of_getElem? (i := 494) (by decide +kernel), List.mem_of_getElem? (i := 578) (by decide +kernel), List.mem_of_getElem? (i := 579) (by decide +kernel)⟩
theorem lw_p17 : lw_okq (⟨"PlaceTestsModel", "isOpen", "(II)Z"⟩, 22) := ⟨⟨by decide +kernel, by decide +kernel⟩, List.mem_of_getElem? (i := 494) (by decide +kernel), List.mem_of_getElem? (i := 615) (by decide +kernel), List.mem_of_getElem? (i := 616) (by decide +kernel)⟩
theorem lw_p18 : lw_okq (⟨"PlaceTestsModel", "isInFrame", "(II)Z"⟩, 22) := ⟨⟨by decide +kernel, by decide +kernel⟩, List.mem_of_getElem? (i := 494) (by decide +kernel), List.mem_of_getElem? (i := 619) (by decide +kernel), List.mem_of_getElem? (i := 620) (by decide +kernel)⟩
theorem lw_p19 : lw_okq (⟨"PlaceTestsModel", "placeOf", "(II)I"⟩, 22) := ⟨⟨by decide +kernel, by decide +kernel⟩, List.mem_of_getElem? (i := 494) (by decide +kernel), List.mem_of_getElem? (i := 623) (by decide +kernel), List.mem_of_getElem? (i := 624) (by decide +kernel)⟩
theorem lw_p20 : lw_okq (⟨"PlaceTestsModel", "writeStencil", "(III)V"⟩, 22) := ⟨⟨by decide +kernel, by decide +kernel⟩, List.mem_of_getElem? (i := 494) (by decide +kernel), List.mem_of_getElem? (i := 627) (by decide +kernel), List.mem_of_getElem? (i := 628) (by decide +kernel)⟩
theorem lw_p21 : lw_okq (⟨"PlaceTestsModel", "answer", "(I)I"⟩, 22) := ⟨⟨by decide +kernel, by decide +kernel⟩, List.mem_of_getElem? (i := 494) (by decide +kernel), List.mem_of_getElem? (i := 635) (by decide +kernel), List.mem_of_getElem? (i := 636) (by decide +kernel)⟩
theorem lw_p22 : lw_okq (⟨"PlaceTestsModel", "act", "(III)V"⟩, 22) := ⟨⟨by decide +kernel, by decide +kernel⟩, List.mem_of_getElem? (i := 494) (by decide +kernel), List.mem_of_getElem? (i := 642) (by decide +kernel), List.mem_of_getElem? (i := 643) (by decide +kernel)⟩
theorem lw_p23 : lw_okq (⟨"PlaceTestsModel", "bits", "(I)I"⟩, 22) := ⟨⟨by decide +kernel, by decide +kernel⟩, List.mem_of_getElem? (i := 494) (by decide +kernel), List.mem_of_getElem? (i := 654) (by decide +kernel), List.mem_of_getElem? (i := 655) (by decide +kernel)⟩
theorem lw_p24 : lw_okq (⟨"PlaceTestsModel", "blended", "(I)I"⟩, 22) := ⟨⟨by decide +kernel, by decide +kernel⟩, List.mem_of_getElem? (i := 494) (by decide +kernel), List.mem_of_getElem? (i := 658) (by decide +kernel), List.mem_of_getElem? (i := 659) (by decide +kernel)⟩
theorem lw_p25 : lw_okq (⟨"PlaceTestsModel", "factor", "(II)I"⟩, 22) := ⟨⟨by decide +kernel, by decide +kernel⟩, List.mem_of_getElem? (i := 494) (by decide +kernel), List.mem_of_getElem? (i := 662) (by decide +kernel), List.mem_of_getElem? (i := 663) (by decide +kernel)⟩
theorem lw_p26 : lw_okq (⟨"PlaceTestsModel", "show", "(II)I"⟩, 22) := ⟨⟨by decide +kernel, by decide +kernel⟩, List.mem_of_getElem? (i := 494) (by decide +kernel), List.mem_of_getElem? (i := 673) (by decide +kernel), List.mem_of_getElem? (i := 674) (by decide +kernel)⟩
def lw_privs_2 : List (MethodName × Nat) := [(⟨"PlaceTestsModel", "refuse", "(ZZ)Z"⟩, 22), (⟨"PlaceTestsModel", "isOpen", "(II)Z"⟩, 22), (⟨"PlaceTestsModel", "isInFrame", "(II)Z"⟩, 22), (⟨"PlaceTestsModel", "placeOf", "(II)I"⟩, 22), (⟨"PlaceTestsModel", "writeStencil", "(III)V"⟩, 22), (⟨"PlaceTestsModel", "answer", "(I)I"⟩, 22), (⟨"PlaceTestsModel", "act", "(III)V"⟩, 22), (⟨"PlaceTestsModel", "bits", "(I)I"⟩, 22), (⟨"PlaceTestsModel", "blended", "(I)I"⟩, 22), (⟨"PlaceTestsModel", "factor", "(II)I"⟩, 22), (⟨"PlaceTestsModel", "show", "(II)I"⟩, 22)]
theorem lw_r2 : ∀ q ∈ lw_privs_2, lw_okq q := List.forall_mem_cons.mpr ⟨lw_p16, List.forall_mem_cons.mpr ⟨lw_p17, List.forall_mem_cons.mpr ⟨lw_p18, List.forall_mem_cons.mpr ⟨lw_p19, List.forall_mem_cons.mpr ⟨lw_p20, List.forall_mem_cons.mpr ⟨lw_p21, List.forall_mem_cons.mpr ⟨lw_p22, List.forall_mem_cons.mpr ⟨lw_p23, List.forall_mem_cons.mpr ⟨lw_p24, List.forall_mem_cons.mpr ⟨lw_p25, List.forall_mem_cons.mpr ⟨lw_p26, fun _ h => absurd h List.not_mem_nil⟩⟩⟩⟩⟩⟩⟩⟩⟩⟩⟩
def lw_privs : List (MethodName × Nat) := lw_privs_1 ++ (lw_privs_2)
def lw_tbl : List Cond := k2_sels lw_privs ++ tables_1
theorem lw_privs_ok : ∀ q ∈ lw_privs, lw_okq q := by
  show ∀ q ∈ lw_privs_1 ++ (lw_privs_2), lw_okq q
  exact List.forall_mem_append.mpr ⟨lw_r1, lw_r2⟩
end
section
section VXA
def vx_T (XC : String → State → State → Prop) (st : State) (q : Addr) (t : State) (mc ms : Nat) (free : Addr → Prop) : Prop :=
  ∃ (E : String) (ce : Cell) (L : List Loc), XC E st t ∧ t.heap[q]? = some ce ∧ ce.vm = .none ∧ st.vm.findClass E = some ce.cls ∧ st.WarmedH t.vm ∧ st.sameButNew ({ t with vm := st.vm } : State) L mc ms ∧ ∀ z ∈ L, free z.base
def vx_Q (Qc : Array Value → State → Outcome → State → Prop) (XC : String → State → State → Prop) (mc ms : Nat) (free : Addr → Prop) : Array Value → State → Outcome → State → Prop := fun a st o t =>
  (Qc a st o t ∧ ∃ L, FrameEnd st o t L mc ms ∧ ∀ q ∈ L, free q.base) ∨ ∃ q, o = .threw q ∧ vx_T XC st q t mc ms free
def vx_Met (l : Launch) (y : MethodName) (ws : List Cond) (rm : Room) (Pc : Array Value → State → Prop) (Qc : Array Value → State → Outcome → State → Prop) (XC : String → State → State → Prop) (mc ms : Nat) (free : Addr → Prop) : Prop :=
  MetFree l y (headSpec ws rm) Pc (fun _ _ _ _ _ => True) (vx_Q Qc XC mc ms free)
def vx_Post (XC : String → State → State → Prop) (mc ms : Nat) (free : Addr → Prop) : Pt → Array Value → Addr → Pt → Prop := fun A a q B =>
  ∃ (g : JFrame) (mk : MethodId) (t : State) (L : List Loc) (E : String) (ce : Cell), B.U.heap = t.heap ∧ B.U.vm = t.vm ∧ XC E (A.U.calling g mk a) t ∧ t.heap[q]? = some ce ∧ ce.vm = .none ∧ A.U.vm.findClass E = some ce.cls ∧ B.locs = A.locs ++ L ∧ (∀ z ∈ L, free z.base) ∧ B.cells = A.cells + mc ∧ B.slots = A.slots + ms
def vx_Back (l : Launch) (R : Room) (p : Program) (e : Env) (below : List Frame) (s : State) (sargs : Array Value) (y : MethodName) (len W9 : Nat)
    (Pre : Pt → Array Value → Prop) (Post : Pt → Array Value → Option Value → Pt → Prop) (PostX : Pt → Array Value → Addr → Pt → Prop) : Prop :=
  ∀ (m : MethodId) (meth : Method) (c : Code) (A : Pt) (g : JFrame) (ig : Instr) (mk : MethodId) (a : Array Value),
    Stand p l e R s m sargs below meth c A.U A.locs A.cells A.slots → g.method = m → g.locals.size = c.maxLocals → decode c.code g.pc = .ok (ig, len) →
    2 * g.monitorRoom + (g.stack.map fun v => v.category).sum ≤ W9 → A.U.methodNamed? y = some mk → Pre A a →
    (∃ (v : Option Value) (B : Pt), Stand p l e R s m sargs below meth c B.U B.locs B.cells B.slots ∧ Post A a v B ∧
      Steps p.tables e below (doInvoke e (A.U.setTop g) [] mk a).1 (B.U.setTop { g with pc := g.pc + len, stack := v.toList ++ g.stack })) ∨
    (∃ (q : Addr) (B : Pt), Stand p l e R s m sargs below meth c B.U B.locs B.cells B.slots ∧ PostX A a q B ∧
      Steps p.tables e below (doInvoke e (A.U.setTop g) [] mk a).1 ((B.U.setTop g).pushFrame (.throwing q)))
theorem vx_cls {s : State} {T : State} {vm₁ : Vm} {E : String} {k : ClassId} (hW : s.WarmedH vm₁) (h : (T.setVm vm₁).vm.findClass E = some k) : s.vm.findClass E = some k := by
  have h1 : vm₁.findClass E = some k := h
  rw [hW.alike.findClass] at h1
  exact h1
def vx_W (p : Program) (l : Launch) (e : Env) (R : Room) (s : State) (m : MethodId) (args : Array Value) (below : List Frame) (meth : Method) (c : Code) (H : Heap) (locs : List Loc) (cells slots : Nat) (Q : State → Prop) (g : JFrame) (q : Addr) : Prop :=
  ∀ T : State, T.heap = H → Stand p l e R s m args below meth c T locs cells slots → ∃ t, Steps p.tables e below ((T.setTop g).pushFrame (.throwing q)) t ∧ Q t
def vx_Run (p : Program) (l : Launch) (e : Env) (R : Room) (s : State) (m : MethodId) (args : Array Value) (below : List Frame) (meth : Method) (c : Code) (H : Heap) (locs : List Loc) (cells slots mc ms : Nat) (g : JFrame) (rest : List Value) (Qa : State → Outcome → State → Prop) (XC : String → State → State → Prop) (free : Addr → Prop) : Prop :=
  ∀ T : State, T.heap = H → Stand p l e R s m args below meth c T locs cells slots →
    (∃ (v : Option Value) (st₀ t T' : State) (L : List Loc), st₀.heap = H ∧ Stand p l e R s m args below meth c T' (locs ++ L) (cells + mc) (slots + ms) ∧ (∀ q ∈ L, free q.base) ∧ T'.heap = t.heap ∧ T'.vm = t.vm ∧ Qa st₀ (.returned v) t ∧
      Goes p e below T g T' { g with pc := g.pc + 3, stack := v.toList ++ rest }) ∨
    (∃ (q : Addr) (st₀ t T' : State) (L : List Loc) (E : String) (ce : Cell), st₀.heap = H ∧ Stand p l e R s m args below meth c T' (locs ++ L) (cells + mc) (slots + ms) ∧ (∀ z ∈ L, free z.base) ∧ T'.heap = t.heap ∧ T'.vm = t.vm ∧ XC E st₀ t ∧ t.heap[q]? = some ce ∧ ce.vm = .none ∧ s.vm.findClass E = some ce.cls ∧
      Steps p.tables e below (T.setTop g) ((T'.setTop { g with stack := rest }).pushFrame (.throwing q)))
def vx_X {S : Type} (px : S → Prop) (B : String → S → State → Prop) (A : Nat → Prop) : String → State → State → Prop := fun E st t => ∃ u : S, px u ∧ B E u t ∧ va_F A st t
section Rows
variable {p : Program} {l : Launch} {e : Env} {R : Room} {s : State} {m : MethodId} {args : Array Value} {below : List Frame} {meth : Method} {c : Code} {H : Heap} {locs : List Loc} {cells slots : Nat} {Q : State → Prop}
variable {mc ms : Nat} {free : Addr → Prop} {A0 A1 : Nat → Prop} {H0 : Heap} {a : Array Value} {pc : Nat} {ls : Array Slot} {st0 rest : List Value}
theorem vx_catch {own name : String} {E : String} {ce : Cell} {q : Addr} (hown : s.vm.findClass own = some m.cls) (pre : List ExceptionTableEntry) (x : ExceptionTableEntry) (suf : List ExceptionTableEntry) (hsplit : c.exceptionTable.toList = pre ++ x :: suf)
    (hpass : ∀ z ∈ pre, covers z pc = false ∨ (z.catchType ≠ 0 ∧ ∃ nm : String, (Cond.classLink own z.catchType nm).before args s = true ∧ va_Nc E nm s)) (hx : covers x pc = true) (h0 : x.catchType ≠ 0)
    (hlink : (Cond.classLink own x.catchType name).before args s = true) (hcast : (Cond.castable E name).before args s = true) (hcell : H[q]? = some ce) (hv : ce.vm = .none) (hcl : s.vm.findClass E = some ce.cls)
    (kk : W p l e R s m args below meth c H locs cells slots Q (F0 m x.handlerPc ls [.ref q])) : vx_W p l e R s m args below meth c H locs cells slots Q (F0 m pc ls rest) q := by
  intro T hT X
  have hpl : e.platform.magicAccessors = ({} : Platform).magicAccessors := by rw [X.admits.platform]
  obtain ⟨c3, c4, hc3, hc4, hasg⟩ := Cond.castable_spec hcast
  cases Option.some.inj (hc3.symm.trans hcl)
  obtain ⟨c5, hc5, hcl5⟩ := Cond.classLink_spec hown hlink e.platform hpl
  cases Option.some.inj (hc4.symm.trans hc5)
  obtain ⟨vm', X', st⟩ := X.thenCaughtThrough q (g := F0 m pc ls rest) rfl (Steps.refl _) (by rw [hT]; exact hcell) (by rw [hv]; rfl) (by obtain ⟨k9, h9, -⟩ := Vm.findClass_spec hcl; exact ⟨k9, h9⟩) pre x suf hsplit
    (fun z hz => by
      rcases hpass z hz with h | ⟨hz0, nm, hl1, hn1⟩
      · exact Or.inl h
      · obtain ⟨c6, hc6, hcl6⟩ := Cond.classLink_spec hown hl1 e.platform hpl
        obtain ⟨a8, b8, h1, h2, h3⟩ := hn1
        cases Option.some.inj (h1.symm.trans hcl)
        cases Option.some.inj (h2.symm.trans hc6)
        exact Or.inr ⟨hz0, _, hcl6, h3⟩) hx (Or.inr ⟨h0, c4, hcl5, hasg⟩)
  obtain ⟨t, a1, b1⟩ := kk (T.setVm vm') hT X'
  exact ⟨t, st.trans a1, b1⟩
end Rows
section Ends
variable {p : Program} {l : Launch} {e : Env} {R : Room} {s : State} {m : MethodId} {args : Array Value} {below : List Frame} {meth : Method} {c : Code} {H : Heap} {locs : List Loc} {cells slots : Nat} {Q : State → Prop}
variable {mc ms : Nat} {free : Addr → Prop} {A0 A1 : Nat → Prop} {H0 : Heap} {a : Array Value} {ls : Array Slot} {st0 rest : List Value}
variable {Qc : Array Value → State → Outcome → State → Prop} {XC : String → State → State → Prop}
def vx_MQ (below : List Frame) (Qc : Array Value → State → Outcome → State → Prop) (XC : String → State → State → Prop) (a : Array Value) (s : State) (mc ms : Nat) (free : Addr → Prop) : State → Prop := fun t =>
  ∃ o, t.status = .running ∧ Ended t below o ∧ vx_Q Qc XC mc ms free a s o t
theorem vx_ret {g : JFrame} {mc ms : Nat} (k : W p l e R s m args below meth c H locs cells slots (MQ below Qc args s mc ms free) g) : W p l e R s m args below meth c H locs cells slots (vx_MQ below Qc XC args s mc ms free) g := by
  intro T hT X
  obtain ⟨t, a1, o, b1, b2, b3, b4⟩ := k T hT X
  exact ⟨t, a1, o, b1, b2, Or.inl ⟨b3, b4⟩⟩
theorem vx_widen {g : JFrame} {q : Addr} {k n : Nat} (h1 : cells ≤ k) (h2 : slots ≤ n) (kk : vx_W p l e R s m args below meth c H locs k n Q g q) : vx_W p l e R s m args below meth c H locs cells slots Q g q := fun T hT X => kk T hT (stand_widen X h1 h2)
theorem vx_out {pc : Nat} {E : String} {ce : Cell} {q : Addr} {mc ms : Nat} (hout : ∀ x ∈ c.exceptionTable.toList, covers x pc = false) (hlocks : meth.locks = false) (hcell : H[q]? = some ce) (hv : ce.vm = .none) (hcl : s.vm.findClass E = some ce.cls)
    (hx : ∀ t : State, t.heap = H → s.vm.Alike t.vm → XC E s t) (hf : ∀ z ∈ locs, free z.base) (hc : cells ≤ mc) (hs : slots ≤ ms) :
    vx_W p l e R s m args below meth c H locs cells slots (vx_MQ below Qc XC args s mc ms free) (F0 m pc ls rest) q := by
  intro T hT X
  obtain ⟨st1, hrun, hend, hW, hsm⟩ := X.leaveThrown q (g := F0 m pc ls rest) rfl rfl rfl hout hlocks
  have hcell9 : (T.setFrames (.throwing q :: below)).heap[q]? = some ce := by
    show T.heap[q]? = some ce
    rw [hT]; exact hcell
  exact ⟨_, st1, .threw q, hrun, hend, Or.inr ⟨q, rfl, E, ce, locs, hx _ hT hW.alike, hcell9, hv, hcl, hW, hsm.mono hc hs, hf⟩⟩
theorem vx_frame {U : State} {k n : Nat} (h : s.sameButNew ({ U with vm := s.vm } : State) locs k n) : s.heap.size ≤ U.heap.size ∧ ∀ q : Nat, q < s.heap.size → (∀ z ∈ locs, z.base ≠ q) → U.heap[q]? = s.heap[q]? := by
  obtain ⟨-, h2, -, -, -, h6⟩ := h
  refine ⟨h2, fun q hq hz => ?_⟩
  obtain ⟨c9, e1, e2, e3, e4⟩ := h6 q _ (Array.getElem?_eq_getElem hq)
  have hs : c9.slots = (s.heap[q]).slots := Array.ext_getElem? fun i => e4 i fun hm => hz _ hm rfl
  have h9 : c9 = s.heap[q] := by
    rw [hs] at e2
    exact e2
  have e5 : U.heap[q]? = some c9 := e1
  rw [e5, h9, Array.getElem?_eq_getElem hq]
def vx_no (w : Cond) : Bool := decide (w ≠ .isRef (.static Bundle.tN "UNASSIGNED_STACK" Bundle.steD)) && decide (w ≠ .isRef (.static Bundle.tN "SUPPRESSED_SENTINEL" Bundle.listD)) && decide (w ≠ .laysStatic Bundle.tN "UNASSIGNED_STACK" Bundle.steD) && decide (w ≠ .laysStatic Bundle.tN "SUPPRESSED_SENTINEL" Bundle.listD)
def vx_at0 (own : String) (ic : Nat) (X : String) (names : List String) : List Cond := (Bundle.ownAtoms0 own ic X names).filter vx_no
def vx_atS (own : String) (ic : Nat) (X : String) (names : List String) : List Cond := (Bundle.ownAtoms own ic X names).filter vx_no
def vx_ot (w : Cond) : Bool := w.onTables || goodWord w
theorem vx_ot_at {args a' : Array Value} {s U : State} {w : Cond} (hW : s.WarmedH U.vm) (hvm : s.vm = U.vm) (hg : vx_ot w = true) (h : w.before args s = true) : w.before a' U = true := by
  simp only [vx_ot, Bool.or_eq_true] at hg
  rcases hg with hg | hg
  · exact va_tabs hg hvm h
  · exact word_at hW (good_of_word hg) h
theorem vx_hat {args : Array Value} {s : State} {L B : List Cond} (h1 : ∀ w ∈ L.filter goodWord, w.before args s = true) (h2 : ∀ w ∈ L.filter (fun w => !goodWord w), w ∈ B) (h3 : ∀ w ∈ B, w.before args s = true) : ∀ w ∈ L, w.before args s = true := by
  intro w hw
  by_cases g : goodWord w = true
  · exact h1 w (List.mem_filter.mpr ⟨hw, g⟩)
  · refine h3 w (h2 w (List.mem_filter.mpr ⟨hw, ?_⟩))
    show (!goodWord w) = true
    cases hgw : goodWord w
    · rfl
    · exact absurd hgw g
theorem vx_c {args : Array Value} {s : State} {w : Cond} {B : List Cond} (h : w.before args s = true) (t : ∀ w ∈ B, w.before args s = true) : ∀ w' ∈ w :: B, w'.before args s = true := fun w' h' => (List.mem_cons.mp h').elim (fun e => by rw [e]; exact h) (t w')
theorem vx_n {args : Array Value} {s : State} : ∀ w ∈ ([] : List Cond), w.before args s = true := fun _ h => nomatch h
theorem vx_own {args : Array Value} {s : State} {L : List Cond} (h1 : ∀ w ∈ L.filter vx_no, w.before args s = true)
    (hU : (Cond.isRef (.static Bundle.tN "UNASSIGNED_STACK" Bundle.steD)).before args s = true) (hN : (Cond.isRef (.static Bundle.tN "SUPPRESSED_SENTINEL" Bundle.listD)).before args s = true)
    (lU : (Cond.laysStatic Bundle.tN "UNASSIGNED_STACK" Bundle.steD).before args s = true) (lN : (Cond.laysStatic Bundle.tN "SUPPRESSED_SENTINEL" Bundle.listD).before args s = true) : ∀ w ∈ L, w.before args s = true := by
  intro w hw
  by_cases e1 : w = .isRef (.static Bundle.tN "UNASSIGNED_STACK" Bundle.steD)
  · rw [e1]; exact hU
  · by_cases e2 : w = .isRef (.static Bundle.tN "SUPPRESSED_SENTINEL" Bundle.listD)
    · rw [e2]; exact hN
    · by_cases e3 : w = .laysStatic Bundle.tN "UNASSIGNED_STACK" Bundle.steD
      · rw [e3]; exact lU
      · by_cases e4 : w = .laysStatic Bundle.tN "SUPPRESSED_SENTINEL" Bundle.listD
        · rw [e4]; exact lN
        · exact h1 w (List.mem_filter.mpr ⟨hw, by unfold vx_no; rw [decide_eq_true e1, decide_eq_true e2, decide_eq_true e3, decide_eq_true e4]; rfl⟩)
def vx_L (C n d : String) (A : Nat → Prop) (U : State) (H : Heap) : Prop := ∃ (c : ClassId) (k : Class) (i : Nat) (f : Field) (a : Nat) (cell : Cell), U.vm.findClass C = some c ∧ U.fieldFound? C n d = some (c, k, i, f) ∧ f.isStatic = true ∧ k.statics = some a ∧ H[a]? = some cell ∧ cell.vm.isStatics = true ∧ cell.cls = c ∧ f.slot < cell.slots.size ∧ k.staticTypes[f.slot]? = some f.type ∧ ¬ A a
theorem vx_L.moved {C n d : String} {A : Nat → Prop} {u U : State} {H : Heap} (hvm : u.vm.Alike U.vm) (h : vx_L C n d A u H) : vx_L C n d A U H := by
  obtain ⟨c, k, i, f, a, cell, h1, h2, h3, h4, h5, h6, h7, h8, h9, h10⟩ := h
  obtain ⟨k', hi', he⟩ := State.fieldFound?_setVm hvm h2
  exact ⟨c, k', i, f, a, cell, by rw [hvm.findClass]; exact h1, hi', h3, by rw [he]; exact h4, h5, h6, h7, h8, by rw [he]; exact h9, h10⟩
theorem vx_L.kept {C n d : String} {A : Nat → Prop} {U : State} {H H1 : Heap} (h : vx_L C n d A U H) (hq : ∀ a : Nat, a < H.size → ¬ A a → H1[a]? = H[a]?) : vx_L C n d A U H1 := by
  obtain ⟨c, k, i, f, a, cell, h1, h2, h3, h4, h5, h6, h7, h8, h9, h10⟩ := h
  exact ⟨c, k, i, f, a, cell, h1, h2, h3, h4, by rw [hq a (Array.getElem?_eq_some_iff.mp h5).1 h10]; exact h5, h6, h7, h8, h9, h10⟩
theorem vx_L.narrow {C n d : String} {A B : Nat → Prop} {U : State} {H : Heap} (h : vx_L C n d A U H) (hAB : ∀ q, B q → A q) : vx_L C n d B U H := by
  obtain ⟨c, k, i, f, a, cell, h1, h2, h3, h4, h5, h6, h7, h8, h9, h10⟩ := h
  exact ⟨c, k, i, f, a, cell, h1, h2, h3, h4, h5, h6, h7, h8, h9, fun z => h10 (hAB _ z)⟩
theorem vx_L.word {C n d : String} {A : Nat → Prop} {s : State} {args : Array Value} (h : vx_L C n d A s s.heap) : (Cond.laysStatic C n d).before args s = true := by
  obtain ⟨c, k, i, f, a, cell, h1, h2, h3, h4, h5, h6, h7, h8, h9, -⟩ := h
  show (Cond.laysStatic C n d).holds args s none s [] = true
  exact Cond.laysStatic_of h1 h2 h3 h4 h5 h6 h7 h8 h9
def vx_Zq (C n d : String) (A : Nat → Prop) (U : State) (H : Heap) : Prop := va_Zq C n d A U H ∧ vx_L C n d A U H
theorem vx_Zq.moved {C n d : String} {A : Nat → Prop} {u U : State} {H : Heap} (hvm : u.vm.Alike U.vm) (h : vx_Zq C n d A u H) : vx_Zq C n d A U H := ⟨va_Zq.moved hvm h.1, vx_L.moved hvm h.2⟩
theorem vx_Zq.kept {C n d : String} {A : Nat → Prop} {U : State} {H H1 : Heap} (h : vx_Zq C n d A U H) (hq : ∀ a : Nat, a < H.size → ¬ A a → H1[a]? = H[a]?) : vx_Zq C n d A U H1 := ⟨va_Zq.kept h.1 hq, vx_L.kept h.2 hq⟩
theorem vx_Zq.narrow {C n d : String} {A B : Nat → Prop} {U : State} {H : Heap} (h : vx_Zq C n d A U H) (hAB : ∀ q, B q → A q) : vx_Zq C n d B U H := ⟨va_Zq.narrow h.1 hAB, vx_L.narrow h.2 hAB⟩
theorem vx_Zqof {args : Array Value} {s : State} {C n d : String} {A : Nat → Prop} (hl : (Cond.laysStatic C n d).before args s = true) (hini : (Cond.initialized C).before args s = true) (h : (Cond.isRef (.static C n d)).before args s = true) (hA : ∀ a : Nat, a < s.heap.size → ¬ A a) : vx_Zq C n d A s s.heap := by
  refine ⟨va_Zqof hl hini h hA, ?_⟩
  obtain ⟨c, k, i, f, a, cell, h1, h2, h3, h4, h5, h6, h7, h8, h9⟩ := Cond.laysStatic_spec hl
  exact ⟨c, k, i, f, a, cell, h1, h2, h3, h4, h5, h6, h7, h8, h9, hA a (Array.getElem?_eq_some_iff.mp h5).1⟩
theorem vx_isRef {C n d : String} {v : Value} {A : Nat → Prop} {s : State} {args : Array Value} (h : va_Z C n d v A s s.heap) (hv : v.isRef = true) : (Cond.isRef (.static C n d)).before args s = true := by
  obtain ⟨cf, kf, fi, f, a, cell, h1, h2, h3, h4, h5, h6, h7, -⟩ := h
  have he : (Term.static C n d).eval args s none [] s = some v := by
    simp [Term.eval, State.fieldNamed?, h1, h2, h4, h5, h6, h7]
  simp only [Cond.before, Cond.holds, Cond.value, he]
  cases v <;> simp_all [Value.isRef]
theorem vx_isRefq {C n d : String} {A : Nat → Prop} {s : State} {args : Array Value} (h : va_Zq C n d A s s.heap) : (Cond.isRef (.static C n d)).before args s = true := by
  rcases h with h | ⟨t, h⟩
  · exact vx_isRef h rfl
  · exact vx_isRef h rfl
theorem vx_rebase {T : State} (X : Stand p l e R s m args below meth c T locs cells slots) {R' : Room} (hf : R'.frames ≤ R.frames) (hl : R'.locals ≤ R.locals) (hc : cells + R'.cells ≤ R.cells) (hs : slots + R'.slots ≤ R.slots) :
    Stand p l e R' ((T.setVm s.vm).setFrames (.invoking m args :: below)) m args below meth c T [] 0 0 := by
  have htop : (T.setVm s.vm).topJava?.isSome := X.here.top
  have hF : ((T.setVm s.vm).setFrames (.invoking m args :: below)).frames = .invoking m args :: below := State.frames_setFrames _ (State.cur_lt_of_top htop)
  obtain ⟨g₀, hg0⟩ := Option.isSome_iff_exists.mp htop
  obtain ⟨r, hr⟩ := State.topJava?_eq_some.mp hg0
  have hl9 : e.platform.stackLimits (T.setVm s.vm).me = e.platform.stackLimits s.me := X.limits
  have hb9 : (T.setVm s.vm).me.stackBytes = s.me.stackBytes := X.bytes
  refine ⟨X.admits, X.cas, X.clock, hF, ?_, X.hears, X.method, X.code, X.here, X.tail, X.warmed, ?_, ?_, ?_⟩
  · have h := X.room
    have hU : ((T.setVm s.vm).setFrames (.invoking m args :: below)).localsInUse = s.localsInUse := by
      rw [State.localsInUse_invoking hF (meth := meth) (c := c) X.method X.code, State.localsInUse_invoking X.frames X.method X.code]
    simp only [State.hasRoom, Bool.and_eq_true, decide_eq_true_eq] at h ⊢
    obtain ⟨⟨⟨⟨h1, h2, h3, h4, h5, h6⟩, h7⟩, h8⟩, h9⟩ := h
    rw [X.frames, List.length_cons] at h2 h3
    have q1 := X.heapSize
    have q2 := X.used
    simp only [hF, hU, List.length_cons, State.stackLimits_setFrames, State.stackBytes_setFrames, hl9, hb9]
    refine ⟨⟨⟨⟨by omega, by omega, by omega, by omega, by omega, h6⟩, ?_⟩, ?_⟩, X.book⟩
    · show T.heap.size + R'.cells ≤ e.platform.maxCells
      omega
    · show T.slotsUsed + R'.slots ≤ e.platform.maxSlots
      omega
  · rw [State.stackLimits_setFrames]; rfl
  · rw [State.stackBytes_setFrames]; rfl
  · refine ⟨?_, Nat.le_refl _, Nat.le_refl _, ?_, ?_, fun a c9 h9 => ⟨c9, h9, rfl, rfl, fun _ _ => rfl⟩⟩
    · obtain ⟨t, ht, -⟩ := State.frames_cons hr
      show T.setVm s.vm = { ((T.setVm s.vm).setFrames (.invoking m args :: below)).setFrames (T.setVm s.vm).frames with heap := T.heap, slotsUsed := T.slotsUsed }
      rw [State.setFrames_setFrames, State.setFrames_self ht]
      rfl
    · show T.slotsUsed = T.slotsUsed + ((T.heap.toList.drop T.heap.size).map (·.slots.size)).sum
      rw [List.drop_eq_nil_of_le (Nat.le_of_eq Array.length_toList)]
      rfl
    · show ((T.heap.toList.drop T.heap.size).map (·.slots.size)).sum ≤ 0
      rw [List.drop_eq_nil_of_le (Nat.le_of_eq Array.length_toList)]
      exact Nat.le_refl _
theorem vx_throwS {cc : ByteArray} {pc : Nat} (hexec : p.tables.exec = Jvm.exec) (hb : c.code = cc) (hl : l.stackTraces = false) {own cls text : String} {names : List String} {ik is ic mc ms sa : Nat} {A : Nat → Prop}
    (hown : s.vm.findClass own = some m.cls) (hcls : Bundle.fit cls = true) (hnames : ∀ n ∈ names, Bundle.fit n = true)
    (hk : (Cond.classLink own ik cls).before args s = true) (hini : (Cond.initialized cls).before args s = true) (hstr : vk_R own is text sa s) (hat : ∀ w ∈ vx_atS own ic cls names, w.before args s = true)
    (hgood : ∀ w ∈ Cond.classLink own ik cls :: Cond.initialized cls :: vx_atS own ic cls names, vx_ot w = true)
    (hU : vx_Zq Bundle.tN "UNASSIGNED_STACK" Bundle.steD A s s.heap) (hN : vx_Zq Bundle.tN "SUPPRESSED_SENTINEL" Bundle.listD A s s.heap) (hS : va_S A s.heap H locs) (hsize : ls.size = c.maxLocals)
    (d0 : decode cc pc = .ok (.new ik, 3)) (d3 : decode cc (pc + 3) = .ok (.dup, 1)) (d4 : decode cc (pc + 4) = .ok (.ldc is, 2)) (d6 : decode cc (pc + 6) = .ok (.invokespecial ic, 3)) (d9 : decode cc (pc + 9) = .ok (.athrow, 1))
    (hout : ∀ x ∈ c.exceptionTable.toList, covers x (pc + 9) = false)
    (hRframes : names.length + 3 < R.frames) (hRlocals : (rest.map fun v => v.category).sum + (13 * (names.length + 1) + 43) ≤ R.locals) (hRcells : cells + 1 ≤ R.cells) (hRslots : slots + 6 ≤ R.slots) (hlocks : meth.locks = false)
    (hx : ∀ t : State, s.vm.Alike t.vm → H.size ≤ t.heap.size → (∀ q : Nat, q < H.size → t.heap[q]? = H[q]?) → XC cls s t)
    (hf : ∀ z ∈ locs, free z.base) (hc : cells + 1 ≤ mc) (hs : slots + 6 ≤ ms) :
    W p l e R s m args below meth c H locs cells slots (vx_MQ below Qc XC args s mc ms free) (F0 m pc ls rest) := by
  intro T hT X
  have htr : e.platform.stackTraces = false := (show e.platform.stackTraces = l.stackTraces by rw [X.admits.platform]).trans hl
  have Y := vx_rebase X (R' := { frames := R.frames, locals := R.locals, cells := 1, slots := 6 }) (Nat.le_refl _) (Nat.le_refl _) hRcells hRslots
  obtain ⟨s', hA⟩ : ∃ z, z = (T.setVm s.vm).setFrames (.invoking m args :: below) := ⟨_, rfl⟩
  rw [← hA] at Y
  have hvm : s'.vm = s.vm := by rw [hA]; rfl
  have hhp : s'.heap = H := by rw [hA]; exact hT
  have hW0 : s.WarmedH s'.vm := by rw [hvm]; exact State.WarmedH.refl s
  have hat' : ∀ w ∈ vx_atS own ic cls names, w.before args s' = true := fun w hw => vx_ot_at hW0 hvm.symm (hgood w (List.mem_cons_of_mem _ (List.mem_cons_of_mem _ hw))) (hat w hw)
  have hk' : (Cond.classLink own ik cls).before args s' = true := vx_ot_at hW0 hvm.symm (hgood _ List.mem_cons_self) hk
  have hini' : (Cond.initialized cls).before args s' = true := vx_ot_at hW0 hvm.symm (hgood _ (List.mem_cons_of_mem _ List.mem_cons_self)) hini
  have hU' : vx_Zq Bundle.tN "UNASSIGNED_STACK" Bundle.steD A s' s'.heap := by rw [hhp]; exact vx_Zq.moved hW0.alike (hU.kept hS.2.1)
  have hN' : vx_Zq Bundle.tN "SUPPRESSED_SENTINEL" Bundle.listD A s' s'.heap := by rw [hhp]; exact vx_Zq.moved hW0.alike (hN.kept hS.2.1)
  have h : ∀ w ∈ Bundle.ownAtoms own ic cls names, w.before args s' = true := vx_own hat' (vx_isRefq hU'.1) (vx_isRefq hN'.1) hU'.2.word hN'.2.word
  have hown' : s'.vm.findClass own = some m.cls := by rw [hvm]; exact hown
  have hins : (Cond.instantiable cls 6).before args s' = true := h _ (by simp [Bundle.ownAtoms])
  obtain ⟨vm₁, cX, kX, hfX, hkX, -, -, X₁, st1⟩ := Y.newCold hexec (own := own) (C := cls) (index := ik) (n := 6) hown' hk' hins hini'
    (g := F0 m pc ls rest) rfl (by rw [hb]; exact d0) (Nat.le_refl _) (Nat.le_refl _)
  generalize hT1 : (T.setVm vm₁).pushCell { cls := cX, slots := kX.instanceTypes.map defaultValue, vm := .none } = T1 at X₁ st1
  have hcat : (Value.ref T.heap.size).category = 1 := rfl
  have hcellA : T1.heap[T.heap.size]? = some (freshCell cX kX) := by rw [← hT1]; exact State.heap_pushCell_size _ _
  have d3' : decode c.code (pc + 3) = .ok (.dup, 1) := by rw [hb]; exact d3
  have d4' : decode c.code (pc + 4) = .ok (.ldc is, 2) := by rw [hb]; exact d4
  have hstr' : vk_R own is text sa s' := vk_R.warm hW0 hstr
  obtain ⟨U, hsteps, hrun, hend, hW, hsame, ce, hce, hO⟩ := X₁.ctorThrowS hexec htr (own := own) (cls := cls) (names := names) (ic := ic) hown' hcls hnames h (fun x hx => nomatch hx) hfX hkX hcellA (by rw [hhp, hT]; exact Nat.le_refl _) (msg := .ref sa) rfl
    (g := { method := m, pc := pc + 6, locals := ls, stack := .ref sa :: .ref T.heap.size :: .ref T.heap.size :: rest, locked := none }) rfl hsize rfl rfl (rest := rest) rfl
    (by rw [hb]; exact d6) (by rw [hb]; exact d9) hout hRframes (by simp only [List.map_cons, List.sum_cons, hcat]; omega) hlocks
  obtain ⟨f1, f2⟩ := vx_frame hsame
  rw [hhp] at f1 f2
  have hWs : s.WarmedH U.vm := State.WarmedH.trans hW0 hW
  have hcl : s.vm.findClass cls = some ce.cls := by
    have h9 := hO.cls
    rw [hvm] at h9
    exact h9
  have hall : s.sameButNew ({ U with vm := s.vm } : State) locs mc ms := by
    subst hA
    obtain ⟨e1, e2⟩ := hsame
    rw [State.setFrames_setFrames] at e1
    have h2 : (T.setVm s.vm).sameButNew ({ U with vm := s.vm } : State) [] (0 + 1) (0 + 6) := ⟨e1, e2⟩
    have h3 := X.same.trans h2
    rw [List.append_nil] at h3
    exact h3.mono hc hs
  refine ⟨U, ?_, .threw T.heap.size, hrun, hend, Or.inr ⟨T.heap.size, rfl, cls, ce, locs, hx U hWs.alike f1 (fun q hq => f2 q hq (fun z hz => nomatch hz)), hce, hO.vm, hcl, hWs, hall, hf⟩⟩
  refine st1 _ ?_
  show Steps p.tables e below (T1.setTop { method := m, pc := pc + 3, locals := ls, stack := .ref T.heap.size :: rest, locked := none }) _
  jvm_step X₁.here [X₁.here.top, hexec, d3', Value.category]
  exact X₁.ldcString hexec (own := own) (text := text) (index := is) (a := sa) hown' hstr'.1 hstr'.2
    (g := { method := m, pc := pc + 4, locals := ls, stack := .ref T.heap.size :: .ref T.heap.size :: rest, locked := none }) rfl d4' _ hsteps
end Ends
end VXA
end
section
/-- the String constants that a throw loads -/
def zstrs : List (String × Nat × String) := [("PlaceTests", 66, "wide and high are 1 .. 64"), ("PlaceTests", 71, "x0 and y0 are 0 .. 1023"), ("PlaceTests", 92, "a test is 0 .. 7, or -1 for none"), ("PlaceTests", 98, "a side is 0 or 1"), ("PlaceTests", 110, "the value and the masks are bytes"), ("PlaceTests", 115, "a deed is 0 .. 7"), ("PlaceTests", 141, "a factor is 0 .. 14"), ("PlaceTests", 143, "an equation is 0 .. 4"), ("PlaceTests", 163, "logic is 0 .. 15, or -1 for none"), ("PlaceTests", 165, "a colour mask is 0 .. 15"), ("PlaceTests", 173, "what is cleared is 0 .. 7"), ("PlaceTests", 178, "a depth is 0 .. 2^24 - 1"), ("PlaceTests", 180, "a stencil is a byte"), ("PlaceTests", 213, "what is asked for is 0 .. 2"), ("PlaceTests", 217, "the place is not in the frame"), ("PlaceTests", 224, "an answer is 0 .. 3")]
def zEX (A : Nat → Prop) (U : State) : Prop := vx_Zq Bundle.tN "UNASSIGNED_STACK" Bundle.steD A U U.heap ∧ vx_Zq Bundle.tN "SUPPRESSED_SENTINEL" Bundle.listD A U U.heap ∧ (∀ x ∈ zstrs, ∃ q, vk_R x.1 x.2.1 x.2.2 q U) ∧ va_Nc "java/lang/IndexOutOfBoundsException" "java/lang/IllegalArgumentException" U
theorem zEX_t {A B : Nat → Prop} {s U : State} (h : zEX A s) (hBA : ∀ q, B q → A q) (hk : ∀ a : Nat, a < s.heap.size → ¬ A a → U.heap[a]? = s.heap[a]?) (hW : s.WarmedH U.vm) : zEX B U :=
  ⟨((vx_Zq.moved hW.alike h.1).kept hk).narrow hBA, ((vx_Zq.moved hW.alike h.2.1).kept hk).narrow hBA, fun x hx => (h.2.2.1 x hx).elim (fun q hq => ⟨q, vk_R.warm hW hq⟩), va_Nc.moved hW.alike h.2.2.2⟩
theorem zEX_f {A : Nat → Prop} {U : State} {g : JFrame} {mk : MethodId} {a : Array Value} (h : zEX A U) : zEX A (U.calling g mk a) :=
  ⟨vx_Zq.moved (u := U) (U := U.calling g mk a) (Vm.Alike.refl U.vm) h.1, vx_Zq.moved (u := U) (U := U.calling g mk a) (Vm.Alike.refl U.vm) h.2.1, fun x hx => (h.2.2.1 x hx).elim (fun q hq => ⟨q, vk_R.same (u := U) (U := U.calling g mk a) rfl hq⟩), va_Nc.moved (u := U) (U := U.calling g mk a) (Vm.Alike.refl U.vm) h.2.2.2⟩
def zXok (Ts : List Cond) (cl : List vw_C) (own : String) (i ci ic : Nat) : Prop :=
  ∃ (cls : String) (names : List String) (T0 : u_T), cl[ci]? = some (cls, T0, 0) ∧ Bundle.fit cls = true ∧ (∀ n ∈ names, Bundle.fit n = true) ∧ names.length ≤ 2 ∧ Cond.classLink own i cls ∈ Ts ∧ Cond.initialized cls ∈ Ts ∧ (∀ w ∈ vx_atS own ic cls names, w ∈ Ts) ∧ ∀ w ∈ Cond.classLink own i cls :: Cond.initialized cls :: vx_atS own ic cls names, vx_ot w = true
def zSok (own : String) (j : Nat) : Prop := ∃ tx, (own, j, tx) ∈ zstrs
end
section
/-! Contracts of methods that may throw: Met with the outcome left free. -/
def zf_E (first t : State) (L : List Loc) (k n : Nat) : Prop := first.WarmedH t.vm ∧ first.sameButNew ({ t with vm := first.vm } : State) L k n
def zMet (l : Launch) (y : MethodName) (ws : List Cond) (rm : Room) (Pc : Array Value → State → Prop) (Qc : Array Value → State → Outcome → State → Prop) (mc ms : Nat) (free : Addr → Prop) : Prop :=
  MetFree l y (headSpec ws rm) Pc (fun _ _ _ _ _ => True) (fun a st o t => Qc a st o t ∧ ∃ L, zf_E st t L mc ms ∧ ∀ q ∈ L, free q.base)
def zMQ (below : List Frame) (Qc : Array Value → State → Outcome → State → Prop) (a : Array Value) (s : State) (mc ms : Nat) (free : Addr → Prop) : State → Prop := fun t =>
  ∃ o, t.status = .running ∧ Ended t below o ∧ Qc a s o t ∧ ∃ L, zf_E s t L mc ms ∧ ∀ q ∈ L, free q.base
/-- a method's contract out of its walk; hh: its handler table ([]: none) -/
theorem zMet.ofW {l : Launch} {y : MethodName} {ws ws' : List Cond} {rm : Room} {Pc : Array Value → State → Prop} {Qc : Array Value → State → Outcome → State → Prop} {mc ms : Nat} {free : Addr → Prop} {cc : ByteArray} {maxL : Nat} {ret : Option FieldType}
    (hy : plainName y.cls = true) (hw : ws = Cond.code y cc maxL ret :: ws')
    (body : ∀ p e s m args below meth c s₁, BodyLoose p l y (headSpec ws rm) cc maxL ret e s m args below meth c s₁ → c.maxLocals = maxL → c.exceptionTable.toList = [] → Pc args s →
      W p l e (headSpec ws rm).room s m args below meth c s.heap [] 0 0 (zMQ below Qc args s mc ms free) (entryFrame m args maxL)) : zMet l y ws rm Pc Qc mc ms free := by
  refine MetFree.of_bodyS (code := cc) (maxLocals := maxL) (ret := ret) hy ?_ ?_
  · intro args s m h hn
    obtain ⟨meth, c, h1, h2, h3, h4, h5, h6, -, -⟩ := Cond.code_spec hn (atoms_spec (ws := ws) h _ (by rw [hw]; exact List.mem_cons_self))
    exact ⟨meth, c, h1, h2, h3, h4, h5, h6⟩
  · intro p e s m args below meth c s₁ B hml hP _
    have hh0 : s₁.heap = s.heap := by rw [B.state]; rfl
    have hem : c.exceptionTable.isEmpty = true := B.noHandlers (atoms_spec (ws := ws) B.pre _ (by rw [hw]; exact List.mem_cons_self))
    have hem' : c.exceptionTable.toList = [] := by simpa using hem
    obtain ⟨t, a1, o, b1, b2, b3⟩ := body p e s m args below meth c s₁ B hml hem' hP s₁ hh0 (Stand.of_body B)
    exact ⟨t, o, a1, b1, b2, ⟨b3.1, b3.2⟩⟩
theorem zMet.ofWH {l : Launch} {y : MethodName} {ws ws' : List Cond} {rm : Room} {Pc : Array Value → State → Prop} {Qc : Array Value → State → Outcome → State → Prop} {mc ms : Nat} {free : Addr → Prop} {cc : ByteArray} {maxL : Nat} {ret : Option FieldType} {hh : List (Nat × Nat × Nat × Nat)}
    (hy : plainName y.cls = true) (hw : ws = Cond.codeWith y cc maxL ret hh :: ws')
    (body : ∀ p e s m args below meth c s₁, BodyLoose p l y (headSpec ws rm) cc maxL ret e s m args below meth c s₁ → c.maxLocals = maxL → c.exceptionTable.toList = tableOf hh → Pc args s →
      W p l e (headSpec ws rm).room s m args below meth c s.heap [] 0 0 (zMQ below Qc args s mc ms free) (entryFrame m args maxL)) : zMet l y ws rm Pc Qc mc ms free := by
  refine MetFree.of_bodyS (code := cc) (maxLocals := maxL) (ret := ret) hy ?_ ?_
  · intro args s m h hn
    obtain ⟨m9, meth, c, hn9, h1, h2, h3, h4, -, h5, h6, -⟩ := Cond.codeWith_spec (atoms_spec (ws := ws) h _ (by rw [hw]; exact List.mem_cons_self))
    cases hn.symm.trans hn9
    exact ⟨meth, c, h1, h2, h3, h4, h5, h6⟩
  · intro p e s m args below meth c s₁ B hml hP _
    have hh0 : s₁.heap = s.heap := by rw [B.state]; rfl
    obtain ⟨m9, meth', c', hn9, h1, h2, h3, h4, h7, h5, h6, -⟩ := Cond.codeWith_spec (atoms_spec (ws := ws) B.pre _ (by rw [hw]; exact List.mem_cons_self))
    cases B.named.symm.trans hn9
    cases B.method.symm.trans h1
    cases (Stand.of_body B).code.symm.trans h2
    obtain ⟨t, a1, o, b1, b2, b3⟩ := body p e s m args below meth c s₁ B hml (by rw [← h7, table_eq]) hP s₁ hh0 (Stand.of_body B)
    exact ⟨t, o, a1, b1, b2, ⟨b3.1, b3.2⟩⟩
section ZRET
variable {p : Program} {l : Launch} {e : Env} {R : Room} {s : State} {m : MethodId} {args : Array Value} {below : List Frame} {meth : Method} {c : Code} {H : Heap} {locs : List Loc} {cells slots : Nat} {Q : State → Prop}
theorem z_iret {cc : ByteArray} {Qc : Array Value → State → Outcome → State → Prop} {free : Addr → Prop} {v : Int32} {ty : FieldType} (hexec : p.tables.exec = Jvm.exec) (hb : c.code = cc) (hr : meth.sig.returnType = some ty) (hn : narrow ty (.int v) = .int v)
    (hq : ∀ t : State, t.heap = H → s.WarmedH t.vm → Qc args s (.returned (some (.int v))) t) (hf : ∀ q ∈ locs, free q.base)
    {pc : Nat} {ls : Array Slot} (hdg : decode cc pc = .ok (.ireturn, 1)) (hlocks : meth.locks = false) : W p l e R s m args below meth c H locs cells slots (zMQ below Qc args s cells slots free) (F0 m pc ls [.int v]) := by
  intro T hT X
  obtain ⟨t, st, o, h1, h2, h3, L, ⟨h4, h5, h6⟩, h7⟩ := W.zret (R := R) (cells := cells) (slots := slots) (locs := locs) (below := below) (Qc := Qc) (free := free) (ls := ls) hexec hb hr hn hq hf hdg hlocks T hT X
  exact ⟨t, st, o, h1, h2, h3, L, ⟨h5, h6⟩, h7⟩
theorem z_vret {cc : ByteArray} {Qc : Array Value → State → Outcome → State → Prop} {free : Addr → Prop} (hexec : p.tables.exec = Jvm.exec) (hb : c.code = cc) (hr : meth.sig.returnType = none)
    (hq : ∀ t : State, t.heap = H → s.WarmedH t.vm → Qc args s (.returned none) t) (hf : ∀ q ∈ locs, free q.base)
    {pc : Nat} {ls : Array Slot} (hdg : decode cc pc = .ok (.return_, 1)) (hlocks : meth.locks = false) : W p l e R s m args below meth c H locs cells slots (zMQ below Qc args s cells slots free) (F0 m pc ls []) := by
  intro T hT X
  obtain ⟨t, st, o, h1, h2, h3, L, ⟨h4, h5, h6⟩, h7⟩ := W.vret (R := R) (cells := cells) (slots := slots) (locs := locs) (below := below) (Qc := Qc) (free := free) (ls := ls) hexec hb hr hq hf hdg hlocks T hT X
  exact ⟨t, st, o, h1, h2, h3, L, ⟨h5, h6⟩, h7⟩
theorem z_aret {cc : ByteArray} {Qc : Array Value → State → Outcome → State → Prop} {free : Addr → Prop} {v : Value} {rt : FieldType} (hexec : p.tables.exec = Jvm.exec) (hb : c.code = cc) (hr : meth.sig.returnType = some rt)
    (hrt : (∃ n, rt = .object n) ∨ ∃ t, rt = .array t) (hv : v = .null ∨ ∃ a, v = .ref a)
    (hq : ∀ t : State, t.heap = H → s.WarmedH t.vm → Qc args s (.returned (some v)) t) (hf : ∀ q ∈ locs, free q.base)
    {pc : Nat} {ls : Array Slot} (hdg : decode cc pc = .ok (.areturn, 1)) (hlocks : meth.locks = false) : W p l e R s m args below meth c H locs cells slots (zMQ below Qc args s cells slots free) (F0 m pc ls [v]) := by
  intro T hT X
  obtain ⟨t, st, o, h1, h2, h3, L, ⟨h4, h5, h6⟩, h7⟩ := W.aret (R := R) (cells := cells) (slots := slots) (locs := locs) (below := below) (Qc := Qc) (free := free) (ls := ls) hexec hb hr hrt hv hq hf hdg hlocks T hT X
  exact ⟨t, st, o, h1, h2, h3, L, ⟨h5, h6⟩, h7⟩
end ZRET
section ZBACK
variable {p : Program} {l : Launch} {e : Env} {R : Room} {s : State} {m : MethodId} {args : Array Value} {below : List Frame} {meth : Method} {c : Code} {U : State} {Ls : List Loc} {c0 s0 : Nat}
/-- what a call does, behind the invoking instruction's own linking: it comes back, or it throws -/
theorem z_back {y : MethodName} {ws : List Cond} {rm : Room} {Pc : Array Value → State → Prop} {Qc : Array Value → State → Outcome → State → Prop} {mc ms maxL : Nat} {free : Addr → Prop} (hM : zMet l y ws rm Pc Qc mc ms free)
    (X : Stand p l e R s m args below meth c U Ls c0 s0) {g : JFrame} (hg : g.method = m) (hsize : g.locals.size = c.maxLocals) {ig : Instr} {len : Nat} (hdg : decode c.code g.pc = .ok (ig, len))
    (hW : 2 * g.monitorRoom + (g.stack.map fun v => v.category).sum ≤ 8) {mk : MethodId} (hn : U.methodNamed? y = some mk) {methY : Method} {cY : Code} (hmY : U.vm.method? mk = some methY) (hcY : methY.code = some cY) (hlY : cY.maxLocals = maxL)
    {a : Array Value} (hini : (Cond.initialized y.cls).before a U = true) (hpre : ∀ w ∈ ws, w.before a U = true) (hfr : rm.frames + 1 ≤ R.frames) (hlo : 8 + (maxL + 11) + rm.locals ≤ R.locals) (hrc : rm.cells = mc) (hrs : rm.slots = ms) (hc : c0 + mc ≤ R.cells) (hs : s0 + ms ≤ R.slots)
    (hPc : Pc a (U.calling g mk a)) :
    ∃ (o : Outcome) (t U' : State) (L : List Loc), Qc a (U.calling g mk a) o t ∧ (∀ q ∈ L, free q.base) ∧ Stand p l e R s m args below meth c U' (Ls ++ L) (c0 + mc) (s0 + ms) ∧ U'.heap = t.heap ∧ U'.vm = t.vm ∧
      ((∃ v, o = .returned v ∧ Steps p.tables e below (doInvoke e (U.setTop g) [] mk a).1 (U'.setTop { g with pc := g.pc + len, stack := v.toList ++ g.stack })) ∨
       (∃ x, o = .threw x ∧ Steps p.tables e below (doInvoke e (U.setTop g) [] mk a).1 ((U'.setTop g).pushFrame (.throwing x)))) := by
  obtain ⟨kY, hkY, -⟩ := className_of_methodNamed hn
  have hinitY : kY.init = .initialized := Cond.initialized_spec (findClass_of_methodNamed hn) hkY hini
  have h : At U g.method c below := by rw [hg]; exact X.here
  have happ : (headSpec ws rm).appliesLoose y e.platform (U.calling g mk a) = true :=
    Spec.appliesLoose_calling (g := g) h hdg hn hkY hinitY
      (X.room_calling (g := g) (R' := (headSpec ws rm).room) hsize hmY hcY hfr (by rw [hlY]; show 2 * g.monitorRoom + (g.stack.map fun v => v.category).sum + (maxL + 11) + rm.locals ≤ R.locals; omega) (by show c0 + rm.cells ≤ R.cells; omega) (by show s0 + rm.slots ≤ R.slots; omega)) (atoms_intro hpre)
  obtain ⟨mid, hmid⟩ := h.above
  have hfrm : (U.setTop g).frames = (.java g :: mid) ++ below := by rw [State.frames_setTop' g h.top, hmid]; rfl
  obtain ⟨o, s₂, hsteps, -, hend, hq, L, ⟨hW2, hsame⟩, hL⟩ := Steps.callFree hM p X.admits X.cas X.clock (acts := []) hfrm happ hPc trivial
  rw [State.frames_setTop' g h.top, X.tail] at hend
  cases o with
  | returned v =>
    obtain ⟨T', X', hW', -, ht⟩ := X.outOf hg hdg hend hW2 hsame
    refine ⟨.returned v, s₂, T', L, hq, hL, X', ?_, ?_, Or.inl ⟨v, rfl, ?_⟩⟩
    · rw [ht]; simp [State.setTop, State.modifyTopJava]
    · rw [ht]; simp [State.setTop, State.modifyTopJava]
    · rw [← ht]; exact hsteps
  | threw x =>
    obtain ⟨T', X', hW', -, ht⟩ := X.outOfThrown hg hend hW2 hsame
    refine ⟨.threw x, s₂, T', L, hq, hL, X', ?_, ?_, Or.inr ⟨x, rfl, ?_⟩⟩
    · rw [ht]; simp [State.setTop, State.pushFrame, State.setFrames, State.modifyTopJava]
    · rw [ht]; simp [State.setTop, State.pushFrame, State.setFrames, State.modifyTopJava]
    · rw [← ht]; exact hsteps
end ZBACK
end
section
/-! A walk as a predicate transformer over an abstract heap: cells by their place in a list, references as places; simp runs it. -/
abbrev zH : Type := List va_E
abbrev zO : Type := Option Value ⊕ Nat
abbrev zLc : Type := List (Option Value)
abbrev zT : Type := List Value → zH → (zO → zH → Prop) → Prop
/-- a callee: operands (with the receiver), the receiver's class, addresses stay, nothing is written, cells, slots, what it does -/
abbrev zEn : Type := Nat × Option Nat × Bool × Bool × Nat × Nat × zT
abbrev zRc : Type := Nat → zLc → List Value → zH → Bool → Nat → Nat → Prop
def za_v (ad : Nat → Nat) (v : Value) : Value := match v with
  | .ref i => .ref (ad i)
  | v => v
def za_e (ad : Nat → Nat) (x : va_E) : va_E := match x with
  | .inl a => .inl a
  | .inr o => .inr (o.1, o.2.map (za_v ad))
def za_w (ad : Nat → Nat) (h : zH) : va_W := h.mapIdx (fun i x => (ad i, za_e ad x))
def zb_v (n : Nat) (v : Value) : Prop := match v with
  | .ref i => i < n
  | _ => True
def zb_o (n : Nat) (o : Option Value) : Prop := match o with
  | some v => zb_v n v
  | none => True
def zb_e (n : Nat) (x : va_E) : Prop := match x with
  | .inl _ => True
  | .inr o => ∀ v ∈ o.2, zb_v n v
theorem za_get (ad : Nat → Nat) (h : zH) (i : Nat) : (za_w ad h)[i]? = (h[i]?).map (fun x => (ad i, za_e ad x)) := by
  unfold za_w; simp [List.getElem?_mapIdx]
theorem za_at {ad : Nat → Nat} {h : zH} {i : Nat} {x : va_E} (e : h[i]? = some x) : (za_w ad h)[i]? = some (ad i, za_e ad x) := by
  rw [za_get, e]; rfl
theorem za_set (ad : Nat → Nat) (h : zH) (i : Nat) (x : va_E) : (za_w ad h).set i (ad i, za_e ad x) = za_w ad (h.set i x) := by
  apply List.ext_getElem?
  intro j
  rw [List.getElem?_set, za_get, za_get, List.getElem?_set]
  by_cases hj : i = j
  · subst hj
    simp only [if_pos]
    by_cases hl : i < h.length
    · simp [za_w, hl]
    · simp [za_w, hl]
  · simp only [if_neg hj]
theorem za_v_b {ad ad' : Nat → Nat} {n : Nat} (hag : ∀ i, i < n → ad' i = ad i) {v : Value} (hb : zb_v n v) : za_v ad' v = za_v ad v := by
  cases v with
  | ref i => exact congrArg Value.ref (hag i hb)
  | _ => rfl
theorem za_s_b {ad ad' : Nat → Nat} {n : Nat} (hag : ∀ i, i < n → ad' i = ad i) {st : List Value} (hb : ∀ v ∈ st, zb_v n v) : st.map (za_v ad') = st.map (za_v ad) :=
  List.map_congr_left (fun v hv => za_v_b hag (hb v hv))
theorem za_e_b {ad ad' : Nat → Nat} {n : Nat} (hag : ∀ i, i < n → ad' i = ad i) {x : va_E} (hb : zb_e n x) : za_e ad' x = za_e ad x := by
  cases x with
  | inl a => rfl
  | inr o => exact congrArg Sum.inr (Prod.ext rfl (za_s_b hag hb))
theorem za_push {ad : Nat → Nat} {h : zH} {q : Nat} {x : va_E} (hb : ∀ y ∈ h, zb_e h.length y) (hx : zb_e h.length x) :
    za_w (fun i => if i = h.length then q else ad i) (h ++ [x]) = za_w ad h ++ [(q, za_e ad x)] := by
  have hag : ∀ i, i < h.length → (fun i => if i = h.length then q else ad i) i = ad i := fun i hi => if_neg (Nat.ne_of_lt hi)
  apply List.ext_getElem?
  intro j
  rw [za_get, List.getElem?_append, List.getElem?_append]
  have hl : (za_w ad h).length = h.length := by simp [za_w]
  rw [hl]
  by_cases hj : j < h.length
  · rw [if_pos hj, if_pos hj, za_get]
    cases e : h[j]? with
    | none => rfl
    | some y =>
      show some ((if j = h.length then q else ad j), za_e (fun i => if i = h.length then q else ad i) y) = some (ad j, za_e ad y)
      rw [if_neg (Nat.ne_of_lt hj), za_e_b hag (hb y (List.mem_of_getElem? e))]
  · rw [if_neg hj, if_neg hj]
    by_cases hz : j = h.length
    · subst hz
      simp only [Nat.sub_self, List.getElem?_cons_zero, Option.map_some, if_pos, if_true]
      rw [za_e_b hag hx]
    · have : 1 ≤ j - h.length := by omega
      obtain ⟨d, hd⟩ : ∃ d, j - h.length = d + 1 := ⟨j - h.length - 1, by omega⟩
      rw [hd]
      simp
-- the locals
def zl_has (ad : Nat → Nat) (ls : Array Slot) (nL : Nat) (lc : zLc) : Prop := (ls.size = nL ∧ lc.length = nL) ∧ lv_wf ls ∧ ∀ (i : Nat) (v : Value), lc[i]? = some (some v) → ls[i]? = some (.val (za_v ad v)) ∧ v.category = 1
def zl_l (ad : Nat → Nat) (lc : zLc) : List (Nat × Value) := (lc.mapIdx (fun i o => o.map (fun v => (i, za_v ad v)))).filterMap id
theorem zl_mem {ad : Nat → Nat} {lc : zLc} {q : Nat × Value} : q ∈ zl_l ad lc ↔ ∃ v, lc[q.1]? = some (some v) ∧ q.2 = za_v ad v := by
  unfold zl_l
  rw [List.mem_filterMap]
  constructor
  · rintro ⟨o, ho, he⟩
    have he' : o = some q := he
    subst he'
    obtain ⟨i, hi⟩ := List.getElem?_of_mem ho
    rw [List.getElem?_mapIdx] at hi
    cases e : lc[i]? with
    | none => rw [e] at hi; cases hi
    | some o =>
      rw [e] at hi
      have hi' : o.map (fun v => (i, za_v ad v)) = some q := Option.some.inj hi
      cases o with
      | none => cases hi'
      | some v =>
        have : (i, za_v ad v) = q := Option.some.inj hi'
        subst this
        exact ⟨v, e, rfl⟩
  · rintro ⟨v, h1, h2⟩
    refine ⟨some q, ?_, rfl⟩
    apply List.mem_of_getElem? (i := q.1)
    rw [List.getElem?_mapIdx, h1]
    show some (some (q.1, za_v ad v)) = some (some q)
    rw [← h2]
theorem za_cat (ad : Nat → Nat) (v : Value) : (za_v ad v).category = v.category := by cases v <;> rfl
theorem zl_lv {ad : Nat → Nat} {ls : Array Slot} {nL : Nat} {lc : zLc} (h : zl_has ad ls nL lc) : lv_has ls nL (zl_l ad lc) := by
  refine ⟨h.1.1, h.2.1, fun q hq => ?_⟩
  obtain ⟨v, h1, h2⟩ := zl_mem.mp hq
  rw [h2]
  exact (h.2.2 q.1 v h1).1
theorem zl_at {ad : Nat → Nat} {ls : Array Slot} {nL : Nat} {lc : zLc} (h : zl_has ad ls nL lc) {i : Nat} {v : Value} (e : lc[i]? = some (some v)) : ls[i]? = some (.val (za_v ad v)) := (h.2.2 i v e).1
theorem zl_st {ad : Nat → Nat} {ls ls' : Array Slot} {nL : Nat} {lc : zLc} {i : Nat} {w : Value} {o : Option Value} (h : zl_has ad ls nL lc)
    (h' : lv_has ls' nL ((i, w) :: (zl_l ad lc).filter (fun q => !(q.1 == i) && !(q.1 + 1 == i && q.2.category == 2)))) (ho : ∀ v, o = some v → w = za_v ad v ∧ v.category = 1) : zl_has ad ls' nL (lc.set i o) := by
  refine ⟨⟨h'.1, by rw [List.length_set]; exact h.1.2⟩, h'.2.1, fun j v hj => ?_⟩
  rw [List.getElem?_set] at hj
  by_cases hij : i = j
  · subst hij
    rw [if_pos rfl] at hj
    by_cases hl : i < lc.length
    · rw [if_pos hl] at hj
      obtain ⟨h1, h2⟩ := ho v (Option.some.inj hj)
      refine ⟨?_, h2⟩
      rw [← h1]
      exact h'.2.2 (i, w) List.mem_cons_self
    · rw [if_neg hl] at hj; cases hj
  · rw [if_neg hij] at hj
    have hc := (h.2.2 j v hj).2
    refine ⟨?_, hc⟩
    refine h'.2.2 (j, za_v ad v) (List.mem_cons_of_mem _ (List.mem_filter.mpr ⟨zl_mem.mpr ⟨v, hj, rfl⟩, ?_⟩))
    have : ¬ j = i := fun q => hij q.symm
    simp [this, za_cat, hc]
theorem zl_b {ad ad' : Nat → Nat} {n : Nat} (hag : ∀ i, i < n → ad' i = ad i) {ls : Array Slot} {nL : Nat} {lc : zLc} (h : zl_has ad ls nL lc) (hb : ∀ o ∈ lc, zb_o n o) : zl_has ad' ls nL lc := by
  refine ⟨h.1, h.2.1, fun i v e => ?_⟩
  obtain ⟨h1, h2⟩ := h.2.2 i v e
  refine ⟨?_, h2⟩
  rw [za_v_b hag (hb (some v) (List.mem_of_getElem? e))]
  exact h1
-- what an instruction takes
def zi1 (st : List Value) (f : Int32 → List Value → Prop) : Prop := match st with
  | .int x :: r => f x r
  | _ => False
def zi2 (st : List Value) (f : Int32 → Int32 → List Value → Prop) : Prop := match st with
  | .int y :: .int x :: r => f x y r
  | _ => False
def zr1 (st : List Value) (f : Nat → List Value → Prop) : Prop := match st with
  | .ref i :: r => f i r
  | _ => False
def zri (st : List Value) (f : Nat → Int32 → List Value → Prop) : Prop := match st with
  | .int j :: .ref i :: r => f i j r
  | _ => False
def zrii (st : List Value) (f : Nat → Int32 → Int32 → List Value → Prop) : Prop := match st with
  | .int x :: .int j :: .ref i :: r => f i j x r
  | _ => False
def zril (st : List Value) (f : Nat → Int32 → Int64 → List Value → Prop) : Prop := match st with
  | .long x :: .int j :: .ref i :: r => f i j x r
  | _ => False
def zvr (st : List Value) (f : Nat → Value → List Value → Prop) : Prop := match st with
  | v :: .ref i :: r => f i v r
  | _ => False
def zl2 (st : List Value) (f : Int64 → Int64 → List Value → Prop) : Prop := match st with
  | .long y :: .long x :: r => f x y r
  | _ => False
def zv1 (st : List Value) (f : Value → List Value → Prop) : Prop := match st with
  | v :: r => v.category = 1 ∧ f v r
  | _ => False
def zv2 (st : List Value) (f : Value → Value → List Value → Prop) : Prop := match st with
  | v :: w :: r => v.category = 1 ∧ w.category = 1 ∧ f v w r
  | _ => False
def zv3 (st : List Value) (f : Value → Value → Value → List Value → Prop) : Prop := match st with
  | v :: w :: u :: r => v.category = 1 ∧ w.category = 1 ∧ u.category = 1 ∧ f v w u r
  | _ => False
def zli (lc : zLc) (i : Nat) (f : Int32 → Prop) : Prop := match lc[i]? with
  | some (some (.int x)) => f x
  | _ => False
def zlr (lc : zLc) (i : Nat) (f : Nat → Prop) : Prop := match lc[i]? with
  | some (some (.ref x)) => f x
  | _ => False
def zob (h : zH) (i : Nat) (ci : Nat) (f : List Value → Prop) : Prop := match h[i]? with
  | some (.inr (c, fs)) => c = ci ∧ f fs
  | _ => False
def zai (h : zH) (i : Nat) (f : ClassId → Nat → (Nat → Int32) → Prop) : Prop := match h[i]? with
  | some (.inl (cA, n, .inl g)) => f cA n g
  | _ => False
def zal (h : zH) (i : Nat) (f : ClassId → Nat → (Nat → Int64) → Prop) : Prop := match h[i]? with
  | some (.inl (cA, n, .inr (.inl g))) => f cA n g
  | _ => False
def zfv (fs : List Value) (k : Nat) (f : Value → Prop) : Prop := match fs[k]? with
  | some v => f v
  | _ => False
def zgo (r : Nat → Prop) (pc : Nat) (off : Int) : Prop := 0 ≤ (pc : Int) + off ∧ r ((pc : Int) + off).toNat
def zswT (x : Int32) (r : Nat → Prop) (pc : Nat) (d : Int) : Int → List Int → Prop
  | _, [] => zgo r pc d
  | lo, o :: l => (x.toInt = lo → zgo r pc o) ∧ (¬ x.toInt = lo → zswT x r pc d (lo + 1) l)
def zcc (c : ClassFile.Cond) (x y : Int32) : Prop := match c with
  | .eq => x = y
  | .ne => ¬ x = y
  | .lt => x < y
  | .ge => y ≤ x
  | .gt => y < x
  | .le => x ≤ y
def zrv (rc : Option Nat) (a : List Value) (h : zH) : Prop := match rc with
  | none => True
  | some ci => match a with
    | .ref i :: _ => zob h i ci (fun _ => True)
    | _ => False
def zldj (d : Except DecodeError (Instr × Nat)) (f : Nat → Prop) : Prop := match d with
  | .ok (.ldc j, 2) => f j
  | _ => False
theorem zldj_s {d : Except DecodeError (Instr × Nat)} {f : Nat → Prop} (h : zldj d f) : ∃ j, d = .ok (.ldc j, 2) ∧ f j := by
  unfold zldj at h
  split at h
  · exact ⟨_, rfl, h⟩
  · exact h.elim
section ZW
variable (cc : ByteArray) (G : Nat → Option (Nat × Nat × FieldType × Bool)) (E : Nat → Nat → Option zEn) (X : Nat → Option (Nat × Nat)) (SL : Nat → Bool) (NW : Nat → Option (Nat × Nat × List Value)) (CS : Nat → Option Int32) (HD : Nat → Nat → Option Nat)
variable (sc : Option (Nat × (Nat → Int32))) (cI cL : ClassId) (RC RS : Nat) (ctor : Bool) (KK : zO → zH → Bool → Nat → Nat → Prop)
def zcat (rec : zRc) (hp : Option Nat) (lc : zLc) (h : zH) (k q : Nat) : Prop := match hp with
  | none => False
  | some hp => match decode cc hp with
    | .ok (.astore_n j, 1) => j.val < lc.length ∧ rec (hp + 1) (lc.set j.val none) [] h true k q
    | .ok (.astore j, 2) => j < lc.length ∧ rec (hp + 2) (lc.set j none) [] h true k q
    | _ => False
def zcal (rec : zRc) (en : Option zEn) (pc : Nat) (lc : zLc) (st : List Value) (h : zH) (wr : Bool) (k q : Nat) : Prop := match en with
  | none => False
  | some (na, rc, fx, ro, mc, ms, T) =>
    na ≤ st.length ∧ zrv rc (st.take na).reverse h ∧ (fx = true ∨ ((∀ o ∈ lc, zb_o h.length o) ∧ ∀ v ∈ st.drop na, zb_v h.length v)) ∧ k + mc ≤ RC ∧ q + ms ≤ RS ∧ ((st.drop na).map fun v => v.category).sum ≤ 8 ∧
    T (st.take na).reverse h (fun o h' => (fx = true → h'.length = h.length) ∧ match o with
      | .inl v => rec (pc + 3) lc (v.toList ++ st.drop na) h' (wr || !ro) (k + mc) (q + ms)
      | .inr ci => zcat cc rec (HD pc ci) lc h' (k + mc) (q + ms))
def zexc (X2 : Nat × Nat) (pc : Nat) (st : List Value) (h : zH) (wr : Bool) (k q : Nat) : Prop :=
  wr = false ∧ (st.map fun v => v.category).sum ≤ 8 ∧ k + 1 ≤ RC ∧ q + 6 ≤ RS ∧ decode cc (pc + 3) = .ok (.dup, 1) ∧ zldj (decode cc (pc + 4)) (fun j => SL j = true) ∧ decode cc (pc + 6) = .ok (.invokespecial X2.2, 3) ∧ decode cc (pc + 9) = .ok (.athrow, 1) ∧ KK (.inr X2.1) h wr k q
def znew (rec : zRc) (nw : Option (Nat × Nat × List Value)) (pc : Nat) (lc : zLc) (st : List Value) (h : zH) (k q : Nat) : Prop := match nw with
  | none => False
  | some (ci, n, fs) => k + 1 ≤ RC ∧ q + n ≤ RS ∧ (∀ o ∈ lc, zb_o h.length o) ∧ (∀ v ∈ st, zb_v h.length v) ∧ (∀ y ∈ h, zb_e h.length y) ∧ (∀ v ∈ fs, zb_v h.length v) ∧ h.length < 1000 ∧ rec (pc + 3) lc (.ref h.length :: st) (h ++ [.inr (ci, fs)]) true (k + 1) (q + n)
def zput (rec : zRc) (g : Option (Nat × Nat × FieldType × Bool)) (pc : Nat) (lc : zLc) (st : List Value) (h : zH) (k q : Nat) : Prop := match g with
  | none => False
  | some (ci, kf, ty, fin) => zvr st (fun i v r => zob h i ci (fun fs => (fin = true → ctor = true) ∧ narrow ty v = v ∧ fits ty v = true ∧ kf < fs.length ∧ rec (pc + 3) lc r (h.set i (.inr (ci, fs.set kf v))) true k q))
def zgetf (rec : zRc) (g : Option (Nat × Nat × FieldType × Bool)) (pc : Nat) (lc : zLc) (st : List Value) (h : zH) (wr : Bool) (k q : Nat) : Prop := match g with
  | none => False
  | some (ci, kf, _, _) => zr1 st (fun i r => zob h i ci (fun fs => zfv fs kf (fun v => rec (pc + 3) lc (v :: r) h wr k q)))
def zial (rec : zRc) (pc : Nat) (lc : zLc) (st : List Value) (h : zH) (wr : Bool) (k q : Nat) : Prop := zri st (fun i j r => if i = 1000 then (match sc with
    | none => False
    | some (L, xs) => vp_in j L ∧ rec (pc + 1) lc (.int (xs j.toNatClampNeg) :: r) h wr k q) else zai h i (fun cA n g => cA = cI ∧ vp_in j n ∧ rec (pc + 1) lc (.int (g j.toNatClampNeg) :: r) h wr k q))
def zlen (rec : zRc) (pc : Nat) (lc : zLc) (st : List Value) (h : zH) (wr : Bool) (k q : Nat) : Prop := zr1 st (fun i r => if i = 1000 then (match sc with
    | none => False
    | some (L, _) => rec (pc + 1) lc (.int (Int32.ofNat L) :: r) h wr k q) else zai h i (fun cA n _ => cA = cI ∧ rec (pc + 1) lc (.int (Int32.ofNat n) :: r) h wr k q))
def zwI (rec : zRc) (d : Except DecodeError (Instr × Nat)) (pc : Nat) (lc : zLc) (st : List Value) (h : zH) (wr : Bool) (k q : Nat) : Prop := match d with
  | .ok (.iconst n, 1) => rec (pc + 1) lc (.int (Int32.ofInt n) :: st) h wr k q
  | .ok (.bipush n, 2) => rec (pc + 2) lc (.int (Int8.ofInt n).toInt32 :: st) h wr k q
  | .ok (.sipush n, 3) => rec (pc + 3) lc (.int (Int16.ofInt n).toInt32 :: st) h wr k q
  | .ok (.ldc i, 2) => (match CS i with
    | some v => rec (pc + 2) lc (.int v :: st) h wr k q
    | none => False)
  | .ok (.ldc_w i, 3) => (match CS i with
    | some v => rec (pc + 3) lc (.int v :: st) h wr k q
    | none => False)
  | .ok (.aconst_null, 1) => rec (pc + 1) lc (.null :: st) h wr k q
  | .ok (.iload_n i, 1) => zli lc i.val (fun x => rec (pc + 1) lc (.int x :: st) h wr k q)
  | .ok (.iload i, 2) => zli lc i (fun x => rec (pc + 2) lc (.int x :: st) h wr k q)
  | .ok (.aload_n i, 1) => zlr lc i.val (fun x => rec (pc + 1) lc (.ref x :: st) h wr k q)
  | .ok (.aload i, 2) => zlr lc i (fun x => rec (pc + 2) lc (.ref x :: st) h wr k q)
  | .ok (.istore_n i, 1) => i.val < lc.length ∧ zi1 st (fun x r => rec (pc + 1) (lc.set i.val (some (.int x))) r h wr k q)
  | .ok (.istore i, 2) => i < lc.length ∧ zi1 st (fun x r => rec (pc + 2) (lc.set i (some (.int x))) r h wr k q)
  | .ok (.astore_n i, 1) => i.val < lc.length ∧ zr1 st (fun x r => rec (pc + 1) (lc.set i.val (some (.ref x))) r h wr k q)
  | .ok (.astore i, 2) => i < lc.length ∧ zr1 st (fun x r => rec (pc + 2) (lc.set i (some (.ref x))) r h wr k q)
  | .ok (.iinc i n, 3) => i < lc.length ∧ zli lc i (fun x => rec (pc + 3) (lc.set i (some (.int (x + Int32.ofInt n)))) st h wr k q)
  | .ok (.iadd, 1) => zi2 st (fun x y r => rec (pc + 1) lc (.int (x + y) :: r) h wr k q)
  | .ok (.isub, 1) => zi2 st (fun x y r => rec (pc + 1) lc (.int (x - y) :: r) h wr k q)
  | .ok (.imul, 1) => zi2 st (fun x y r => rec (pc + 1) lc (.int (x * y) :: r) h wr k q)
  | .ok (.idiv, 1) => zi2 st (fun x y r => ¬ y = 0 ∧ rec (pc + 1) lc (.int (x / y) :: r) h wr k q)
  | .ok (.iand, 1) => zi2 st (fun x y r => rec (pc + 1) lc (.int (x &&& y) :: r) h wr k q)
  | .ok (.ior, 1) => zi2 st (fun x y r => rec (pc + 1) lc (.int (x ||| y) :: r) h wr k q)
  | .ok (.ixor, 1) => zi2 st (fun x y r => rec (pc + 1) lc (.int (x ^^^ y) :: r) h wr k q)
  | .ok (.ishl, 1) => zi2 st (fun x y r => rec (pc + 1) lc (.int (x <<< (y &&& 31)) :: r) h wr k q)
  | .ok (.ishr, 1) => zi2 st (fun x y r => rec (pc + 1) lc (.int (x >>> (y &&& 31)) :: r) h wr k q)
  | .ok (.iushr, 1) => zi2 st (fun x y r => rec (pc + 1) lc (.int (x.toUInt32 >>> (y.toUInt32 &&& Int32.toUInt32 31)).toInt32 :: r) h wr k q)
  | .ok (.i2l, 1) => zi1 st (fun x r => rec (pc + 1) lc (.long x.toInt64 :: r) h wr k q)
  | .ok (.lcmp, 1) => zl2 st (fun x y r => rec (pc + 1) lc (.int (lg_cmp x y) :: r) h wr k q)
  | .ok (.dup, 1) => zv1 st (fun v r => rec (pc + 1) lc (v :: v :: r) h wr k q)
  | .ok (.pop, 1) => zv1 st (fun _ r => rec (pc + 1) lc r h wr k q)
  | .ok (.dup_x1, 1) => zv2 st (fun v w r => rec (pc + 1) lc (v :: w :: v :: r) h wr k q)
  | .ok (.dup2, 1) => zv2 st (fun v w r => rec (pc + 1) lc (v :: w :: v :: w :: r) h wr k q)
  | .ok (.dup_x2, 1) => zv3 st (fun v w u r => rec (pc + 1) lc (v :: w :: u :: v :: r) h wr k q)
  | .ok (.goto o, 3) => zgo (fun t => rec t lc st h wr k q) pc o
  | .ok (.ifCond c o, 3) => 0 ≤ (pc : Int) + o ∧ zi1 st (fun x r => (zcc c x 0 → rec ((pc : Int) + o).toNat lc r h wr k q) ∧ (¬ zcc c x 0 → rec (pc + 3) lc r h wr k q))
  | .ok (.if_icmp c o, 3) => 0 ≤ (pc : Int) + o ∧ zi2 st (fun x y r => (zcc c x y → rec ((pc : Int) + o).toNat lc r h wr k q) ∧ (¬ zcc c x y → rec (pc + 3) lc r h wr k q))
  | .ok (.tableswitch d lo hi offs, _) => hi + 1 = lo + offs.toList.length ∧ zi1 st (fun x r => zswT x (fun t => rec t lc r h wr k q) pc d lo offs.toList)
  | .ok (.getfield i, 3) => zgetf rec (G i) pc lc st h wr k q
  | .ok (.putfield i, 3) => zput ctor rec (G i) pc lc st h k q
  | .ok (.iaload, 1) => zial sc cI rec pc lc st h wr k q
  | .ok (.iastore, 1) => zrii st (fun i j x r => zai h i (fun cA n g => cA = cI ∧ vp_in j n ∧ rec (pc + 1) lc r (h.set i (.inl (cI, n, .inl (upd g j.toNatClampNeg x)))) true k q))
  | .ok (.laload, 1) => zri st (fun i j r => zal h i (fun cA n g => cA = cL ∧ vp_in j n ∧ rec (pc + 1) lc (.long (g j.toNatClampNeg) :: r) h wr k q))
  | .ok (.lastore, 1) => zril st (fun i j x r => zal h i (fun cA n g => cA = cL ∧ vp_in j n ∧ rec (pc + 1) lc r (h.set i (.inl (cL, n, .inr (.inl (vp_updL g j.toNatClampNeg x))))) true k q))
  | .ok (.arraylength, 1) => zlen sc cI rec pc lc st h wr k q
  | .ok (.invokestatic i, 3) => zcal cc HD RC RS rec (E 0 i) pc lc st h wr k q
  | .ok (.invokevirtual i, 3) => zcal cc HD RC RS rec (E 1 i) pc lc st h wr k q
  | .ok (.invokespecial i, 3) => zcal cc HD RC RS rec (E 2 i) pc lc st h wr k q
  | .ok (.new i, 3) => (match X i with
    | some x2 => zexc cc SL RC RS KK x2 pc st h wr k q
    | none => znew RC RS rec (NW i) pc lc st h k q)
  | .ok (.newarray t, 2) => t = .int ∧ zi1 st (fun x r => ¬ x < 0 ∧ x.toNatClampNeg * 4 ≤ 536870912 ∧ k + 1 ≤ RC ∧ q + x.toNatClampNeg ≤ RS ∧ (∀ o ∈ lc, zb_o h.length o) ∧ (∀ v ∈ r, zb_v h.length v) ∧ (∀ y ∈ h, zb_e h.length y) ∧ h.length < 1000 ∧ rec (pc + 2) lc (.ref h.length :: r) (h ++ [.inl (cI, x.toNatClampNeg, .inl (fun _ => 0))]) true (k + 1) (q + x.toNatClampNeg))
  | .ok (.ireturn, 1) => zi1 st (fun x r => r = [] ∧ KK (.inl (some (.int x))) h wr k q)
  | .ok (.areturn, 1) => zr1 st (fun x r => r = [] ∧ KK (.inl (some (.ref x))) h wr k q)
  | .ok (.return_, 1) => st = [] ∧ KK (.inl none) h wr k q
  | _ => False
/-- J: where the walk stops: a loop's head and what must hold there -/
def zw (J : Nat → Option (zLc → List Value → zH → Bool → Nat → Nat → Prop)) : Nat → zRc
  | 0 => fun _ _ _ _ _ _ _ => False
  | n + 1 => fun pc lc st h wr k q => match J pc with
    | some I => I lc st h wr k q
    | none => zwI cc G E X SL NW CS HD sc cI cL RC RS ctor KK (zw J n) (decode cc pc) pc lc st h wr k q
end ZW
/-- a judgement that is closed under steps -/
def zCl (cc : ByteArray) (G : Nat → Option (Nat × Nat × FieldType × Bool)) (E : Nat → Nat → Option zEn) (X : Nat → Option (Nat × Nat)) (SL : Nat → Bool) (NW : Nat → Option (Nat × Nat × List Value)) (CS : Nat → Option Int32) (HD : Nat → Nat → Option Nat) (sc : Option (Nat × (Nat → Int32))) (cI cL : ClassId) (RC RS : Nat) (ctor : Bool) (KK : zO → zH → Bool → Nat → Nat → Prop) (Jd : zRc) : Prop :=
  ∀ (rec : zRc), (∀ pc lc st h wr k q, rec pc lc st h wr k q → Jd pc lc st h wr k q) → ∀ pc lc st h wr k q, zwI cc G E X SL NW CS HD sc cI cL RC RS ctor KK rec (decode cc pc) pc lc st h wr k q → Jd pc lc st h wr k q
theorem zw_sound {cc : ByteArray} {G : Nat → Option (Nat × Nat × FieldType × Bool)} {E : Nat → Nat → Option zEn} {X : Nat → Option (Nat × Nat)} {SL : Nat → Bool} {NW : Nat → Option (Nat × Nat × List Value)} {CS : Nat → Option Int32} {HD : Nat → Nat → Option Nat}
    {sc : Option (Nat × (Nat → Int32))} {cI cL : ClassId} {RC RS : Nat} {ctor : Bool} {KK : zO → zH → Bool → Nat → Nat → Prop} {J : Nat → Option (zLc → List Value → zH → Bool → Nat → Nat → Prop)} {Jd : zRc}
    (hst : zCl cc G E X SL NW CS HD sc cI cL RC RS ctor KK Jd) (hJ : ∀ pc I, J pc = some I → ∀ lc st h wr k q, I lc st h wr k q → Jd pc lc st h wr k q) :
    ∀ (n pc : Nat) (lc : zLc) (st : List Value) (h : zH) (wr : Bool) (k q : Nat), zw cc G E X SL NW CS HD sc cI cL RC RS ctor KK J n pc lc st h wr k q → Jd pc lc st h wr k q := by
  intro n
  induction n with
  | zero => intro pc lc st h wr k q hw; exact hw.elim
  | succ n ih =>
    intro pc lc st h wr k q hw
    unfold zw at hw
    cases hj : J pc with
    | some I => rw [hj] at hw; exact hJ pc I hj lc st h wr k q hw
    | none => rw [hj] at hw; exact hst _ ih pc lc st h wr k q hw
end
section
theorem zi1_s {st : List Value} {f : Int32 → List Value → Prop} (h : zi1 st f) : ∃ x r, st = .int x :: r ∧ f x r := by
  unfold zi1 at h
  split at h
  · exact ⟨_, _, rfl, h⟩
  · exact h.elim
theorem zi2_s {st : List Value} {f : Int32 → Int32 → List Value → Prop} (h : zi2 st f) : ∃ x y r, st = .int y :: .int x :: r ∧ f x y r := by
  unfold zi2 at h
  split at h
  · exact ⟨_, _, _, rfl, h⟩
  · exact h.elim
theorem zr1_s {st : List Value} {f : Nat → List Value → Prop} (h : zr1 st f) : ∃ x r, st = .ref x :: r ∧ f x r := by
  unfold zr1 at h
  split at h
  · exact ⟨_, _, rfl, h⟩
  · exact h.elim
theorem zri_s {st : List Value} {f : Nat → Int32 → List Value → Prop} (h : zri st f) : ∃ i j r, st = .int j :: .ref i :: r ∧ f i j r := by
  unfold zri at h
  split at h
  · exact ⟨_, _, _, rfl, h⟩
  · exact h.elim
theorem zrii_s {st : List Value} {f : Nat → Int32 → Int32 → List Value → Prop} (h : zrii st f) : ∃ i j x r, st = .int x :: .int j :: .ref i :: r ∧ f i j x r := by
  unfold zrii at h
  split at h
  · exact ⟨_, _, _, _, rfl, h⟩
  · exact h.elim
theorem zril_s {st : List Value} {f : Nat → Int32 → Int64 → List Value → Prop} (h : zril st f) : ∃ i j x r, st = .long x :: .int j :: .ref i :: r ∧ f i j x r := by
  unfold zril at h
  split at h
  · exact ⟨_, _, _, _, rfl, h⟩
  · exact h.elim
theorem zvr_s {st : List Value} {f : Nat → Value → List Value → Prop} (h : zvr st f) : ∃ i v r, st = v :: .ref i :: r ∧ f i v r := by
  unfold zvr at h
  split at h
  · exact ⟨_, _, _, rfl, h⟩
  · exact h.elim
theorem zl2_s {st : List Value} {f : Int64 → Int64 → List Value → Prop} (h : zl2 st f) : ∃ x y r, st = .long y :: .long x :: r ∧ f x y r := by
  unfold zl2 at h
  split at h
  · exact ⟨_, _, _, rfl, h⟩
  · exact h.elim
theorem zv1_s {st : List Value} {f : Value → List Value → Prop} (h : zv1 st f) : ∃ v r, st = v :: r ∧ v.category = 1 ∧ f v r := by
  unfold zv1 at h
  split at h
  · exact ⟨_, _, rfl, h⟩
  · exact h.elim
theorem zv2_s {st : List Value} {f : Value → Value → List Value → Prop} (h : zv2 st f) : ∃ v w r, st = v :: w :: r ∧ v.category = 1 ∧ w.category = 1 ∧ f v w r := by
  unfold zv2 at h
  split at h
  · exact ⟨_, _, _, rfl, h⟩
  · exact h.elim
theorem zv3_s {st : List Value} {f : Value → Value → Value → List Value → Prop} (h : zv3 st f) : ∃ v w u r, st = v :: w :: u :: r ∧ v.category = 1 ∧ w.category = 1 ∧ u.category = 1 ∧ f v w u r := by
  unfold zv3 at h
  split at h
  · exact ⟨_, _, _, _, rfl, h⟩
  · exact h.elim
theorem zli_s {lc : zLc} {i : Nat} {f : Int32 → Prop} (h : zli lc i f) : ∃ x, lc[i]? = some (some (.int x)) ∧ f x := by
  unfold zli at h
  split at h
  · rename_i x e; exact ⟨_, e, h⟩
  · exact h.elim
theorem zlr_s {lc : zLc} {i : Nat} {f : Nat → Prop} (h : zlr lc i f) : ∃ x, lc[i]? = some (some (.ref x)) ∧ f x := by
  unfold zlr at h
  split at h
  · rename_i x e; exact ⟨_, e, h⟩
  · exact h.elim
theorem zob_s {h : zH} {i ci : Nat} {f : List Value → Prop} (hw : zob h i ci f) : ∃ fs, h[i]? = some (.inr (ci, fs)) ∧ f fs := by
  unfold zob at hw
  split at hw
  · rename_i c fs e
    obtain ⟨rfl, hw⟩ := hw
    exact ⟨_, e, hw⟩
  · exact hw.elim
theorem zai_s {h : zH} {i : Nat} {f : ClassId → Nat → (Nat → Int32) → Prop} (hw : zai h i f) : ∃ cA n g, h[i]? = some (.inl (cA, n, .inl g)) ∧ f cA n g := by
  unfold zai at hw
  split at hw
  · rename_i e; exact ⟨_, _, _, e, hw⟩
  · exact hw.elim
theorem zal_s {h : zH} {i : Nat} {f : ClassId → Nat → (Nat → Int64) → Prop} (hw : zal h i f) : ∃ cA n g, h[i]? = some (.inl (cA, n, .inr (.inl g))) ∧ f cA n g := by
  unfold zal at hw
  split at hw
  · rename_i e; exact ⟨_, _, _, e, hw⟩
  · exact hw.elim
theorem zfv_s {fs : List Value} {k : Nat} {f : Value → Prop} (hw : zfv fs k f) : ∃ v, fs[k]? = some v ∧ f v := by
  unfold zfv at hw
  split at hw
  · rename_i e; exact ⟨_, e, hw⟩
  · exact hw.elim
theorem zswT_s {x : Int32} {r : Nat → Prop} {pc : Nat} {d : Int} : ∀ {l : List Int} {lo : Int}, zswT x r pc d lo l → ((x.toInt < lo ∨ lo + l.length ≤ x.toInt) ∧ zgo r pc d) ∨ ∃ (j : Nat) (o : Int), lo + j = x.toInt ∧ l[j]? = some o ∧ zgo r pc o
  | [], lo, h => Or.inl ⟨by simp; omega, h⟩
  | o :: l, lo, h => by
    by_cases e : x.toInt = lo
    · exact Or.inr ⟨0, o, by omega, rfl, h.1 e⟩
    · rcases zswT_s (h.2 e) with ⟨h1, h2⟩ | ⟨j, o', h1, h2, h3⟩
      · refine Or.inl ⟨?_, h2⟩
        simp only [List.length_cons]
        omega
      · exact Or.inr ⟨j + 1, o', by omega, by simpa using h2, h3⟩
def zag (n : Nat) (ad' ad : Nat → Nat) : Prop := ∀ i, (i < n ∨ i = 1000) → ad' i = ad i
def zins (kd idx : Nat) : Instr := match kd with
  | 0 => .invokestatic idx
  | 1 => .invokevirtual idx
  | _ => .invokespecial idx
/-- a field's number is right -/
def zFok (Ts : List Cond) (cl : List vw_C) (own : String) (ctor : Bool) (idx ci kf : Nat) (ty : FieldType) (fin : Bool) : Prop :=
  ∃ (C : String) (T : u_T) (N : Nat) (ty0 : Nat → FieldType), cl[ci]? = some (C, T, N) ∧ kf < N ∧ (∀ w ∈ u_ws C T N, w ∈ Ts) ∧ (∀ k, k < N → parseFieldDescriptor (T k).2.2.1 = some (ty0 k)) ∧ ty0 kf = ty ∧ (∀ a, a < N → ∀ b, b < N → a ≠ b → (T a).2.1 ≠ (T b).2.1) ∧ (T kf).2.2.2 = fin ∧
    ((Cond.fieldLink own idx (T kf).1 (T kf).2.1 (T kf).2.2.1 ∈ Ts ∧ (fin = true → (T kf).1 = own)) ∨ (¬ (fin = true ∧ ctor = true) ∧ ∃ host, Cond.fieldLinkNest own idx (T kf).1 (T kf).2.1 (T kf).2.2.1 host ∈ Ts))
def zNok (Ts : List Cond) (cl : List vw_C) (own : String) (idx ci n : Nat) (fs : List Value) : Prop :=
  ∃ (C : String) (T : u_T) (ty0 : Nat → FieldType), cl[ci]? = some (C, T, n) ∧ (∀ w ∈ u_ws C T n, w ∈ Ts) ∧ (∀ k, k < n → parseFieldDescriptor (T k).2.2.1 = some (ty0 k)) ∧ Cond.classLink own idx C ∈ Ts ∧ Cond.instantiable C n ∈ Ts ∧ Cond.initialized C ∈ Ts ∧ (∀ j, j < n → defaultValue (ty0 j) = vp_V fs j) ∧ ∀ v ∈ fs, ∀ i, v ≠ .ref i
def zS (s : State) (D : va_G) (cl : List vw_C) (A : Nat → Prop) (nL n0 : Nat) (ad0 : Nat → Nat) (lc : zLc) (h : zH) (wr : Bool) (ad : Nat → Nat) (H : Heap) (locs : List Loc) (ls : Array Slot) : Prop :=
  va_P D cl (za_w ad h) H ∧ va_D A (za_w ad h) ∧ va_S A s.heap H locs ∧ zl_has ad ls nL lc ∧ (wr = false → H = s.heap ∧ locs = []) ∧ zag n0 ad ad0 ∧ n0 ≤ h.length ∧ (h.length = n0 → ad = ad0)
def zJ (p : Program) (l : Launch) (e : Env) (R : Room) (s : State) (m : MethodId) (args : Array Value) (below : List Frame) (meth : Method) (c : Code) (Q : State → Prop) (D : va_G) (cl : List vw_C) (A : Nat → Prop) (nL n0 : Nat) (ad0 : Nat → Nat) : zRc := fun pc lc st h wr k q =>
  ∀ (ad : Nat → Nat) (H : Heap) (locs : List Loc) (ls : Array Slot), zS s D cl A nL n0 ad0 lc h wr ad H locs ls → W p l e R s m args below meth c H locs k q Q (F0 m pc ls (st.map (za_v ad)))
/-- the method is being left by an exception at a call: what comes then -/
def zWt (p : Program) (l : Launch) (e : Env) (R : Room) (s : State) (m : MethodId) (args : Array Value) (below : List Frame) (meth : Method) (c : Code) (H : Heap) (locs : List Loc) (k q : Nat) (Q : State → Prop) (a : Addr) (g : JFrame) : Prop :=
  ∀ T : State, T.heap = H → Stand p l e R s m args below meth c T locs k q → ∃ t, Steps p.tables e below ((T.setTop g).pushFrame (.throwing a)) t ∧ Q t
def zAft (p : Program) (l : Launch) (e : Env) (R : Room) (s : State) (m : MethodId) (args : Array Value) (below : List Frame) (meth : Method) (c : Code) (D : va_G) (cl : List vw_C) (H : Heap) (locs : List Loc) (k q : Nat) (Q : State → Prop) (pc : Nat) (ls : Array Slot) (rest : List Value) (ad' : Nat → Nat) (o : zO) : Prop := match o with
  | .inl v => W p l e R s m args below meth c H locs k q Q (F0 m (pc + 3) ls ((v.map (za_v ad')).toList ++ rest))
  | .inr ci => ∀ a, va_at D cl (a, .inr (ci, [])) H → zWt p l e R s m args below meth c H locs k q Q a (F0 m pc ls rest)
/-- a row for a call -/
def zRow (p : Program) (l : Launch) (e : Env) (R : Room) (s : State) (m : MethodId) (args : Array Value) (below : List Frame) (meth : Method) (c : Code) (cc : ByteArray) (D : va_G) (cl : List vw_C) (A : Nat → Prop) (nL : Nat) (kd idx : Nat) (en : zEn) : Prop :=
  ∀ (Q : State → Prop) (pc : Nat) (ls : Array Slot) (as rest : List Value) (h : zH) (ad : Nat → Nat) (H : Heap) (locs : List Loc) (k q : Nat) (K' : zO → zH → Prop),
    decode cc pc = .ok (zins kd idx, 3) → as.length = en.1 → zrv en.2.1 as h → ls.size = nL → (rest.map fun v => v.category).sum ≤ 8 → k + en.2.2.2.2.1 ≤ R.cells → q + en.2.2.2.2.2.1 ≤ R.slots →
    va_P D cl (za_w ad h) H → va_D A (za_w ad h) → va_S A s.heap H locs → en.2.2.2.2.2.2 as h K' →
    (∀ (o : zO) (h' : zH) (ad' : Nat → Nat) (H1 : Heap) (locs1 : List Loc), K' o h' → zag h.length ad' ad → (h'.length = h.length → ad' = ad) → h.length ≤ h'.length → va_P D cl (za_w ad' h') H1 → va_D A (za_w ad' h') → va_S A s.heap H1 locs1 →
      (∀ v, o = .inl v → en.2.2.2.1 = true → H1 = H ∧ locs1 = locs) → zAft p l e R s m args below meth c D cl H1 locs1 (k + en.2.2.2.2.1) (q + en.2.2.2.2.2.1) Q pc ls (rest.map (za_v ad)) ad' o) →
    W p l e R s m args below meth c H locs k q Q (F0 m pc ls ((as.reverse ++ rest).map (za_v ad)))
theorem zS_i {s : State} {D : va_G} {cl : List vw_C} {A : Nat → Prop} {nL n0 : Nat} {ad0 : Nat → Nat} {lc lc' : zLc} {h : zH} {wr : Bool} {ad : Nat → Nat} {H : Heap} {locs : List Loc} {ls ls' : Array Slot} (hS : zS s D cl A nL n0 ad0 lc h wr ad H locs ls) (hl : zl_has ad ls' nL lc') : zS s D cl A nL n0 ad0 lc' h wr ad H locs ls' :=
  ⟨hS.1, hS.2.1, hS.2.2.1, hl, hS.2.2.2.2⟩
theorem zn_v {ty : FieldType} {ad : Nat → Nat} {v : Value} (h1 : narrow ty v = v) (h2 : fits ty v = true) : narrow ty (za_v ad v) = za_v ad v ∧ fits ty (za_v ad v) = true := by
  cases v with
  | ref i => cases ty <;> simp_all [fits, za_v, narrow]
  | _ => exact ⟨h1, h2⟩
end
section
section ZST
variable {p : Program} {l : Launch} {e : Env} {R : Room} {s : State} {m : MethodId} {args : Array Value} {below : List Frame} {meth : Method} {c : Code} {Q : State → Prop}
variable {cc : ByteArray} {D : va_G} {cl : List vw_C} {A : Nat → Prop} {nL n0 : Nat} {ad0 : Nat → Nat} {own : String} {cI cL : ClassId} {Ts : List Cond}
variable {G : Nat → Option (Nat × Nat × FieldType × Bool)} {E : Nat → Nat → Option zEn} {X : Nat → Option (Nat × Nat)} {SL : Nat → Bool} {NW : Nat → Option (Nat × Nat × List Value)} {CS : Nat → Option Int32} {HD : Nat → Nat → Option Nat}
variable {sc : Option (Nat × (Nat → Int32))} {ctor : Bool} {KK : zO → zH → Bool → Nat → Nat → Prop}
set_option maxHeartbeats 4000000 in
set_option maxRecDepth 100000 in
theorem zwI_sound (hx : p.tables.exec = Jvm.exec) (hb : c.code = cc) (hown : s.vm.findClass own = some m.cls) (hts : ∀ w ∈ Ts, w.before args s = true) (hK : va_K D cl [(cI, .int), (cL, .long)] s) (hA : ∀ q, s.heap.size ≤ q → A q)
    (hG : ∀ idx ci kf ty fin, G idx = some (ci, kf, ty, fin) → zFok Ts cl own ctor idx ci kf ty fin) (hctor : ctor = true → meth.name = "<init>")
    (hCS : ∀ i v, CS i = some v → Cond.constant own i v ∈ Ts) (hNW : ∀ idx ci n fs, NW idx = some (ci, n, fs) → zNok Ts cl own idx ci n fs) (hAC : Cond.arrayClass .int ∈ Ts)
    (hE : ∀ kd idx en, E kd idx = some en → zRow p l e R s m args below meth c cc D cl A nL kd idx en)
    (hHD : ∀ pc ci hp, HD pc ci = some hp → ∀ (Q : State → Prop) (H : Heap) (locs : List Loc) (k q : Nat) (a : Addr) (ls : Array Slot) (rest : List Value), va_at D cl (a, .inr (ci, [])) H → W p l e R s m args below meth c H locs k q Q (F0 m hp ls [.ref a]) → zWt p l e R s m args below meth c H locs k q Q a (F0 m pc ls rest))
    (hX : ∀ i ci ic, X i = some (ci, ic) → ∀ (pc j : Nat) (h : zH) (k q : Nat) (st : List Value) (lc : zLc), (st.map fun v => v.category).sum ≤ 8 → decode cc pc = .ok (.new i, 3) → k + 1 ≤ R.cells → q + 6 ≤ R.slots → decode cc (pc + 3) = .ok (.dup, 1) → decode cc (pc + 4) = .ok (.ldc j, 2) → SL j = true → decode cc (pc + 6) = .ok (.invokespecial ic, 3) → decode cc (pc + 9) = .ok (.athrow, 1) → KK (.inr ci) h false k q →
      zJ p l e R s m args below meth c Q D cl A nL n0 ad0 pc lc st h false k q)
    (hRi : ∀ (x : Int32) (h : zH) (wr : Bool) (k q pc : Nat) (lc : zLc), KK (.inl (some (.int x))) h wr k q → decode cc pc = .ok (.ireturn, 1) → zJ p l e R s m args below meth c Q D cl A nL n0 ad0 pc lc [.int x] h wr k q)
    (hRa : ∀ (x : Nat) (h : zH) (wr : Bool) (k q pc : Nat) (lc : zLc), KK (.inl (some (.ref x))) h wr k q → decode cc pc = .ok (.areturn, 1) → zJ p l e R s m args below meth c Q D cl A nL n0 ad0 pc lc [.ref x] h wr k q)
    (hRv : ∀ (h : zH) (wr : Bool) (k q pc : Nat) (lc : zLc), KK (.inl none) h wr k q → decode cc pc = .ok (.return_, 1) → zJ p l e R s m args below meth c Q D cl A nL n0 ad0 pc lc [] h wr k q)
    (hsc : ∀ L xs, sc = some (L, xs) → va_X (ad0 1000) L xs s s.heap ∧ ad0 1000 < s.heap.size ∧ ¬ A (ad0 1000))
    {rec : zRc} (hrec : ∀ pc lc st h wr k q, rec pc lc st h wr k q → zJ p l e R s m args below meth c Q D cl A nL n0 ad0 pc lc st h wr k q)
    {pc : Nat} {lc : zLc} {st : List Value} {h : zH} {wr : Bool} {k q : Nat} (hw : zwI cc G E X SL NW CS HD sc cI cL R.cells R.slots ctor KK rec (decode cc pc) pc lc st h wr k q) :
    zJ p l e R s m args below meth c Q D cl A nL n0 ad0 pc lc st h wr k q := by
  have hcall : ∀ kd idx, decode cc pc = .ok (zins kd idx, 3) → zcal cc HD R.cells R.slots rec (E kd idx) pc lc st h wr k q → zJ p l e R s m args below meth c Q D cl A nL n0 ad0 pc lc st h wr k q := by
    intro kd idx hd hw ad H locs ls hS
    cases hE1 : E kd idx with
    | none => rw [hE1] at hw; exact hw.elim
    | some en =>
      rw [hE1] at hw
      obtain ⟨na, rc, fx, ro, mc, ms, T⟩ := en
      obtain ⟨h1, h2, h3, h4, h5, h6, h7⟩ := hw
      have hst : st = ((st.take na).reverse).reverse ++ st.drop na := by rw [List.reverse_reverse, List.take_append_drop]
      have hrow := hE kd idx _ hE1 Q pc ls (st.take na).reverse (st.drop na) h ad H locs k q _ hd (by simp [List.length_take]; omega) h2 hS.2.2.2.1.1.1 h6 h4 h5 hS.1 hS.2.1 hS.2.2.1 h7
      rw [← hst] at hrow
      refine hrow (fun o h' ad' H1 locs1 hK' hag hfx hlen hP1 hD1 hS1 hro => ?_)
      obtain ⟨hfl, hK'⟩ := hK'
      have hn0 := hS.2.2.2.2.2.2.1
      have had0 : h'.length = n0 → ad' = ad0 := fun z => (hfx (by omega)).trans (hS.2.2.2.2.2.2.2 (by omega))
      have hag0 : zag n0 ad' ad0 := by
        intro i hi
        rw [hag i (by rcases hi with hi | hi; exact Or.inl (Nat.lt_of_lt_of_le hi hS.2.2.2.2.2.2.1); exact Or.inr hi)]
        exact hS.2.2.2.2.2.1 i hi
      have hrest : (st.drop na).map (za_v ad) = (st.drop na).map (za_v ad') := by
        rcases h3 with h3 | ⟨-, h3⟩
        · rw [hfx (hfl h3)]
        · exact (za_s_b (fun i hi => hag i (Or.inl hi)) h3).symm
      have hloc : zl_has ad' ls nL lc := by
        rcases h3 with h3 | ⟨h3, -⟩
        · rw [hfx (hfl h3)]; exact hS.2.2.2.1
        · exact zl_b (fun i hi => hag i (Or.inl hi)) hS.2.2.2.1 h3
      cases o with
      | inl v =>
        show W _ _ _ _ _ _ _ _ _ _ _ _ _ _ _ (F0 m (pc + 3) ls ((v.map (za_v ad')).toList ++ (st.drop na).map (za_v ad)))
        rw [hrest]
        have := hrec _ _ _ _ _ _ _ hK' ad' H1 locs1 ls ⟨hP1, hD1, hS1, hloc, fun hwr => by
          rw [Bool.or_eq_false_iff] at hwr
          have hro' : ro = true := by have := hwr.2; simpa using this
          obtain ⟨e1, e2⟩ := hro v rfl hro'
          obtain ⟨e3, e4⟩ := hS.2.2.2.2.1 hwr.1
          exact ⟨e1.trans e3, e2.trans e4⟩, hag0, Nat.le_trans hn0 hlen, had0⟩
        rw [List.map_append] at this
        cases v <;> exact this
      | inr ci =>
        show ∀ a, va_at D cl (a, .inr (ci, [])) H1 → zWt p l e R s m args below meth c H1 locs1 (k + mc) (q + ms) Q a (F0 m pc ls ((st.drop na).map (za_v ad)))
        intro a ha
        have hK2 : zcat cc rec (HD pc ci) lc h' (k + mc) (q + ms) := hK'
        unfold zcat at hK2
        cases hh : HD pc ci with
        | none => rw [hh] at hK2; exact hK2.elim
        | some hp =>
          rw [hh] at hK2
          refine hHD pc ci hp hh Q H1 locs1 _ _ a ls _ ha ?_
          dsimp only at hK2
          split at hK2
          · rename_i j hdd
            refine lv_astore_n hx hb hdd rfl (zl_lv hloc) (by rw [← hloc.1.2]; exact hK2.1) rfl (fun ls' hl' => ?_)
            exact hrec _ _ _ _ _ _ _ hK2.2 ad' H1 locs1 ls' ⟨hP1, hD1, hS1, zl_st hloc hl' (fun v hv => by cases hv), (fun z => by cases z), hag0, Nat.le_trans hn0 hlen, had0⟩
          · rename_i j hdd
            refine lv_astore hx hb hdd (zl_lv hloc) (by rw [← hloc.1.2]; exact hK2.1) rfl (fun ls' hl' => ?_)
            exact hrec _ _ _ _ _ _ _ hK2.2 ad' H1 locs1 ls' ⟨hP1, hD1, hS1, zl_st hloc hl' (fun v hv => by cases hv), (fun z => by cases z), hag0, Nat.le_trans hn0 hlen, had0⟩
          · exact hK2.elim
  generalize hd : decode cc pc = d at hw
  unfold zwI at hw
  split at hw
  -- iconst, bipush, sipush, ldc, null
  · intro ad H locs ls hS
    exact lv_iconst hx hb hd rfl (hrec _ _ _ _ _ _ _ hw ad H locs ls hS)
  · intro ad H locs ls hS
    exact lv_bipush hx hb hd rfl (hrec _ _ _ _ _ _ _ hw ad H locs ls hS)
  · intro ad H locs ls hS
    exact lv_sipush hx hb hd rfl (hrec _ _ _ _ _ _ _ hw ad H locs ls hS)
  · intro ad H locs ls hS
    split at hw
    · rename_i v hv
      exact lv_ldc hx hb hown (hts _ (hCS _ _ hv)) hd (hrec _ _ _ _ _ _ _ hw ad H locs ls hS)
    · exact hw.elim
  · intro ad H locs ls hS
    split at hw
    · rename_i v hv
      exact lv_ldcw hx hb hown (hts _ (hCS _ _ hv)) hd (hrec _ _ _ _ _ _ _ hw ad H locs ls hS)
    · exact hw.elim
  · intro ad H locs ls hS
    exact lv_null hx hb hd (hrec _ _ _ _ _ _ _ hw ad H locs ls hS)
  -- loads
  · obtain ⟨x, e1, hw⟩ := zli_s hw
    intro ad H locs ls hS
    exact lv_iload_n hx hb hd rfl (zl_at hS.2.2.2.1 e1) (hrec _ _ _ _ _ _ _ hw ad H locs ls hS)
  · obtain ⟨x, e1, hw⟩ := zli_s hw
    intro ad H locs ls hS
    exact lv_iload hx hb hd (zl_at hS.2.2.2.1 e1) (hrec _ _ _ _ _ _ _ hw ad H locs ls hS)
  · obtain ⟨x, e1, hw⟩ := zlr_s hw
    intro ad H locs ls hS
    exact lv_aload_n hx hb hd rfl (zl_at hS.2.2.2.1 e1) (hrec _ _ _ _ _ _ _ hw ad H locs ls hS)
  · obtain ⟨x, e1, hw⟩ := zlr_s hw
    intro ad H locs ls hS
    exact lv_aload hx hb hd (zl_at hS.2.2.2.1 e1) (hrec _ _ _ _ _ _ _ hw ad H locs ls hS)
  -- stores
  · obtain ⟨hi, hw⟩ := hw
    obtain ⟨x, r, rfl, hw⟩ := zi1_s hw
    intro ad H locs ls hS
    exact lv_istore_n hx hb hd rfl (zl_lv hS.2.2.2.1) (by rw [← hS.2.2.2.1.1.2]; exact hi) rfl (fun ls' hl' => hrec _ _ _ _ _ _ _ hw ad H locs ls' (zS_i hS (zl_st hS.2.2.2.1 hl' (fun v hv => by cases hv; exact ⟨rfl, rfl⟩))))
  · obtain ⟨hi, hw⟩ := hw
    obtain ⟨x, r, rfl, hw⟩ := zi1_s hw
    intro ad H locs ls hS
    exact lv_istore hx hb hd (zl_lv hS.2.2.2.1) (by rw [← hS.2.2.2.1.1.2]; exact hi) rfl (fun ls' hl' => hrec _ _ _ _ _ _ _ hw ad H locs ls' (zS_i hS (zl_st hS.2.2.2.1 hl' (fun v hv => by cases hv; exact ⟨rfl, rfl⟩))))
  · obtain ⟨hi, hw⟩ := hw
    obtain ⟨x, r, rfl, hw⟩ := zr1_s hw
    intro ad H locs ls hS
    exact lv_astore_n hx hb hd rfl (zl_lv hS.2.2.2.1) (by rw [← hS.2.2.2.1.1.2]; exact hi) rfl (fun ls' hl' => hrec _ _ _ _ _ _ _ hw ad H locs ls' (zS_i hS (zl_st hS.2.2.2.1 hl' (fun v hv => by cases hv; exact ⟨rfl, rfl⟩))))
  · obtain ⟨hi, hw⟩ := hw
    obtain ⟨x, r, rfl, hw⟩ := zr1_s hw
    intro ad H locs ls hS
    exact lv_astore hx hb hd (zl_lv hS.2.2.2.1) (by rw [← hS.2.2.2.1.1.2]; exact hi) rfl (fun ls' hl' => hrec _ _ _ _ _ _ _ hw ad H locs ls' (zS_i hS (zl_st hS.2.2.2.1 hl' (fun v hv => by cases hv; exact ⟨rfl, rfl⟩))))
  · rename_i i n
    obtain ⟨hi, hw⟩ := hw
    obtain ⟨x, e1, hw⟩ := zli_s hw
    intro ad H locs ls hS
    obtain ⟨k0, hk0⟩ := List.getElem?_of_mem (zl_mem (ad := ad) (lc := lc) (q := (i, Value.int x)) |>.mpr ⟨.int x, e1, rfl⟩)
    exact lv_iinc (k := k0) hx hb hd (zl_lv hS.2.2.2.1) hk0 rfl (by rw [← hS.2.2.2.1.1.2]; exact hi) rfl (fun ls' hl' => hrec _ _ _ _ _ _ _ hw ad H locs ls' (zS_i hS (zl_st hS.2.2.2.1 hl' (fun v hv => by cases hv; exact ⟨rfl, rfl⟩))))
  -- arithmetic
  · obtain ⟨x, y, r, rfl, hw⟩ := zi2_s hw
    exact fun ad H locs ls hS => lv_iadd hx hb hd (hrec _ _ _ _ _ _ _ hw ad H locs ls hS)
  · obtain ⟨x, y, r, rfl, hw⟩ := zi2_s hw
    exact fun ad H locs ls hS => lv_isub hx hb hd (hrec _ _ _ _ _ _ _ hw ad H locs ls hS)
  · obtain ⟨x, y, r, rfl, hw⟩ := zi2_s hw
    exact fun ad H locs ls hS => lv_imul hx hb hd (hrec _ _ _ _ _ _ _ hw ad H locs ls hS)
  · obtain ⟨x, y, r, rfl, hy, hw⟩ := zi2_s hw
    exact fun ad H locs ls hS => lv_idiv hx hb hd hy (hrec _ _ _ _ _ _ _ hw ad H locs ls hS)
  · obtain ⟨x, y, r, rfl, hw⟩ := zi2_s hw
    exact fun ad H locs ls hS => lv_iand hx hb hd (hrec _ _ _ _ _ _ _ hw ad H locs ls hS)
  · obtain ⟨x, y, r, rfl, hw⟩ := zi2_s hw
    exact fun ad H locs ls hS => lv_ior hx hb hd (hrec _ _ _ _ _ _ _ hw ad H locs ls hS)
  · obtain ⟨x, y, r, rfl, hw⟩ := zi2_s hw
    exact fun ad H locs ls hS => lv_ixor hx hb hd (hrec _ _ _ _ _ _ _ hw ad H locs ls hS)
  · obtain ⟨x, y, r, rfl, hw⟩ := zi2_s hw
    exact fun ad H locs ls hS => lv_ishl hx hb hd (hrec _ _ _ _ _ _ _ hw ad H locs ls hS)
  · obtain ⟨x, y, r, rfl, hw⟩ := zi2_s hw
    exact fun ad H locs ls hS => lv_ishr hx hb hd (hrec _ _ _ _ _ _ _ hw ad H locs ls hS)
  · obtain ⟨x, y, r, rfl, hw⟩ := zi2_s hw
    exact fun ad H locs ls hS => lv_iushr hx hb hd rfl (hrec _ _ _ _ _ _ _ hw ad H locs ls hS)
  · obtain ⟨x, r, rfl, hw⟩ := zi1_s hw
    exact fun ad H locs ls hS => lv_i2l hx hb hd rfl (hrec _ _ _ _ _ _ _ hw ad H locs ls hS)
  · obtain ⟨x, y, r, rfl, hw⟩ := zl2_s hw
    exact fun ad H locs ls hS => W.lcmp hx hb hd (hrec _ _ _ _ _ _ _ hw ad H locs ls hS)
  -- the stack
  · obtain ⟨v, r, rfl, hc1, hw⟩ := zv1_s hw
    exact fun ad H locs ls hS => lv_dup hx hb hd (by rw [za_cat]; exact hc1) (hrec _ _ _ _ _ _ _ hw ad H locs ls hS)
  · obtain ⟨v, r, rfl, hc1, hw⟩ := zv1_s hw
    exact fun ad H locs ls hS => lv_pop hx hb hd (by rw [za_cat]; exact hc1) (hrec _ _ _ _ _ _ _ hw ad H locs ls hS)
  · obtain ⟨v, w, r, rfl, hc1, hc2, hw⟩ := zv2_s hw
    exact fun ad H locs ls hS => lv_dup_x1 hx hb hd (by rw [za_cat]; exact hc1) (by rw [za_cat]; exact hc2) (hrec _ _ _ _ _ _ _ hw ad H locs ls hS)
  · obtain ⟨v, w, r, rfl, hc1, hc2, hw⟩ := zv2_s hw
    exact fun ad H locs ls hS => lv_dup2_11 hx hb hd (by rw [za_cat]; exact hc1) (by rw [za_cat]; exact hc2) (hrec _ _ _ _ _ _ _ hw ad H locs ls hS)
  · obtain ⟨v, w, u, r, rfl, hc1, hc2, hc3, hw⟩ := zv3_s hw
    exact fun ad H locs ls hS => lv_dup_x2 hx hb hd (by rw [za_cat]; exact hc1) (by rw [za_cat]; exact hc2) (by rw [za_cat]; exact hc3) (hrec _ _ _ _ _ _ _ hw ad H locs ls hS)
  -- jumps
  · obtain ⟨h0, hw⟩ := hw
    exact fun ad H locs ls hS => lv_goto hx hb hd (by omega) (hrec _ _ _ _ _ _ _ hw ad H locs ls hS)
  · rename_i c0 o
    obtain ⟨h0, hw⟩ := hw
    obtain ⟨x, r, rfl, h1, h2⟩ := zi1_s hw
    intro ad H locs ls hS
    have ht : (pc : Int) + o = (((pc : Int) + o).toNat : Int) := by omega
    cases c0 with
    | eq => exact lv_if_eq hx hb hd ht (fun z => hrec _ _ _ _ _ _ _ (h1 z) ad H locs ls hS) (fun z => hrec _ _ _ _ _ _ _ (h2 z) ad H locs ls hS)
    | ne => exact lv_if_ne hx hb hd ht (fun z => hrec _ _ _ _ _ _ _ (h1 z) ad H locs ls hS) (fun z => hrec _ _ _ _ _ _ _ (h2 (fun y => y z)) ad H locs ls hS)
    | lt => exact lv_if_lt hx hb hd ht (fun z => hrec _ _ _ _ _ _ _ (h1 z) ad H locs ls hS) (fun z => hrec _ _ _ _ _ _ _ (h2 z) ad H locs ls hS)
    | ge => exact lv_if_ge hx hb hd ht (fun z => hrec _ _ _ _ _ _ _ (h1 z) ad H locs ls hS) (fun z => hrec _ _ _ _ _ _ _ (h2 z) ad H locs ls hS)
    | gt => exact lv_if_gt hx hb hd ht (fun z => hrec _ _ _ _ _ _ _ (h1 z) ad H locs ls hS) (fun z => hrec _ _ _ _ _ _ _ (h2 z) ad H locs ls hS)
    | le => exact lv_if_le hx hb hd ht (fun z => hrec _ _ _ _ _ _ _ (h1 z) ad H locs ls hS) (fun z => hrec _ _ _ _ _ _ _ (h2 z) ad H locs ls hS)
  · rename_i c0 o
    obtain ⟨h0, hw⟩ := hw
    obtain ⟨x, y, r, rfl, h1, h2⟩ := zi2_s hw
    intro ad H locs ls hS
    have ht : (pc : Int) + o = (((pc : Int) + o).toNat : Int) := by omega
    cases c0 with
    | eq => exact lv_icmp_eq hx hb hd ht (fun z => hrec _ _ _ _ _ _ _ (h1 z) ad H locs ls hS) (fun z => hrec _ _ _ _ _ _ _ (h2 z) ad H locs ls hS)
    | ne => exact lv_icmp_ne hx hb hd ht (fun z => hrec _ _ _ _ _ _ _ (h1 z) ad H locs ls hS) (fun z => hrec _ _ _ _ _ _ _ (h2 (fun y => y z)) ad H locs ls hS)
    | lt => exact lv_icmp_lt hx hb hd ht (fun z => hrec _ _ _ _ _ _ _ (h1 z) ad H locs ls hS) (fun z => hrec _ _ _ _ _ _ _ (h2 z) ad H locs ls hS)
    | ge => exact lv_icmp_ge hx hb hd ht (fun z => hrec _ _ _ _ _ _ _ (h1 z) ad H locs ls hS) (fun z => hrec _ _ _ _ _ _ _ (h2 z) ad H locs ls hS)
    | gt => exact lv_icmp_gt hx hb hd ht (fun z => hrec _ _ _ _ _ _ _ (h1 z) ad H locs ls hS) (fun z => hrec _ _ _ _ _ _ _ (h2 z) ad H locs ls hS)
    | le => exact lv_icmp_le hx hb hd ht (fun z => hrec _ _ _ _ _ _ _ (h1 z) ad H locs ls hS) (fun z => hrec _ _ _ _ _ _ _ (h2 z) ad H locs ls hS)
  · rename_i d0 lo hi offs len
    obtain ⟨hn, hw⟩ := hw
    obtain ⟨x, r, rfl, hw⟩ := zi1_s hw
    intro ad H locs ls hS
    rcases zswT_s hw with ⟨h1, h2, h3⟩ | ⟨j, o, h1, h2, h3, h4⟩
    · exact lv_tableOut hx hb hd (by omega) (by omega) (hrec _ _ _ _ _ _ _ h3 ad H locs ls hS)
    · have hj : j < offs.toList.length := (List.getElem?_eq_some_iff.mp h2).1
      exact lv_tableIn (off := o) hx hb hd (by omega) (by omega) (by rw [show (x.toInt - lo).toNat = j by omega, ← Array.getElem?_toList]; exact h2) (by omega) (hrec _ _ _ _ _ _ _ h4 ad H locs ls hS)
  -- fields
  · rename_i i
    unfold zgetf at hw
    cases hG1 : G i with
    | none => rw [hG1] at hw; exact hw.elim
    | some g =>
      obtain ⟨ci, kf, ty, fin⟩ := g
      rw [hG1] at hw
      obtain ⟨a, r, rfl, hw⟩ := zr1_s hw
      obtain ⟨fs, hi, hw⟩ := zob_s hw
      obtain ⟨v, hv, hw⟩ := zfv_s hw
      obtain ⟨C, T, N, ty0, g1, g2, g3, g4, g5, g6, g7, g8⟩ := hG _ _ _ _ _ hG1
      intro ad H locs ls hS
      have hv' : (fs.map (za_v ad))[kf]? = some (za_v ad v) := by rw [List.getElem?_map, hv]; rfl
      rcases g8 with ⟨hl, -⟩ | ⟨-, host, hl⟩
      · exact va_get (ci := ci) (C := C) (T := T) (N := N) hx hb hts g3 hown hK hS.1 a (za_at hi) g1 kf g2 (hts _ hl) (fun _ z => z) hv' hd (hrec _ _ _ _ _ _ _ hw ad H locs ls hS)
      · exact va_getN (ci := ci) (C := C) (T := T) (N := N) hx hb hts g3 hown hK hS.1 a (za_at hi) g1 kf g2 (hts _ hl) (fun _ z => z) hv' hd (hrec _ _ _ _ _ _ _ hw ad H locs ls hS)
  · rename_i i
    unfold zput at hw
    cases hG1 : G i with
    | none => rw [hG1] at hw; exact hw.elim
    | some g =>
      obtain ⟨ci, kf, ty, fin⟩ := g
      rw [hG1] at hw
      obtain ⟨a, v, r, rfl, hw⟩ := zvr_s hw
      obtain ⟨fs, hi, hf1, hn1, hn2, hl1, hw⟩ := zob_s hw
      obtain ⟨C, T, N, ty0, g1, g2, g3, g4, g5, g6, g7, g8⟩ := hG _ _ _ _ _ hG1
      intro ad H locs ls hS
      obtain ⟨n1, n2⟩ := zn_v (ad := ad) hn1 hn2
      have hd1 : parseFieldDescriptor (T kf).2.2.1 = some ty := by rw [g4 kf g2, g5]
      have he : (za_w ad h).set a (ad a, .inr (ci, (fs.map (za_v ad)).set kf (za_v ad v))) = za_w ad (h.set a (.inr (ci, fs.set kf v))) := by
        rw [← za_set]; simp [za_e, List.map_set]
      have hkk : ∀ (H1 : Heap) (locs1 : List Loc), va_P D cl ((za_w ad h).set a (ad a, .inr (ci, (fs.map (za_v ad)).set kf (za_v ad v)))) H1 → va_D A ((za_w ad h).set a (ad a, .inr (ci, (fs.map (za_v ad)).set kf (za_v ad v)))) → va_S A s.heap H1 locs1 →
          W p l e R s m args below meth c H1 locs1 k q Q (F0 m (pc + 3) ls (r.map (za_v ad))) := by
        intro H1 locs1 hP1 hD1 hS1
        rw [he] at hP1 hD1
        exact hrec _ _ _ _ _ _ _ hw ad H1 locs1 ls ⟨hP1, hD1, hS1, hS.2.2.2.1, (fun z => by cases z), hS.2.2.2.2.2.1, by rw [List.length_set]; exact hS.2.2.2.2.2.2.1, by rw [List.length_set]; exact hS.2.2.2.2.2.2.2⟩
      have hlen : kf < (fs.map (za_v ad)).length := by rw [List.length_map]; exact hl1
      rcases g8 with ⟨hl, hdecl⟩ | ⟨hnf, host, hl⟩
      · cases fin with
        | true => exact va_putF (ci := ci) (C := C) (T := T) (N := N) (v := za_v ad v) hx hb hts g3 ty0 g4 g6 hown hK hS.1 hS.2.1 hS.2.2.1 a (za_at hi) g1 kf g2 (hts _ hl) (fun _ z => z) g7 (hctor (hf1 rfl)) (hdecl rfl) hd1 n1 n2 hlen hd hkk
        | false => exact va_put (ci := ci) (C := C) (T := T) (N := N) (v := za_v ad v) hx hb hts g3 ty0 g4 g6 hown hK hS.1 hS.2.1 hS.2.2.1 a (za_at hi) g1 kf g2 (hts _ hl) (fun _ z => z) g7 hd1 n1 n2 hlen hd hkk
      · cases fin with
        | true => exact absurd ⟨rfl, hf1 rfl⟩ hnf
        | false => exact va_putN (ci := ci) (C := C) (T := T) (N := N) (v := za_v ad v) hx hb hts g3 ty0 g4 g6 hown hK hS.1 hS.2.1 hS.2.2.1 a (za_at hi) g1 kf g2 (hts _ hl) (fun _ z => z) g7 hd1 n1 n2 hlen hd hkk
  -- arrays
  · unfold zial at hw
    obtain ⟨i, j, r, rfl, hw2⟩ := zri_s hw
    clear hw
    intro ad H locs ls hS
    by_cases hi : i = 1000
    · subst hi
      rw [if_pos rfl] at hw2
      cases hs1 : sc with
      | none => rw [hs1] at hw2; exact hw2.elim
      | some q1 =>
        obtain ⟨L, xs⟩ := q1
        rw [hs1] at hw2
        obtain ⟨x1, x2, x3⟩ := hsc L xs hs1
        have e1 : ad 1000 = ad0 1000 := hS.2.2.2.2.2.1 1000 (Or.inr rfl)
        show W _ _ _ _ _ _ _ _ _ _ _ _ _ _ _ (F0 m pc ls (.int j :: .ref (ad 1000) :: r.map (za_v ad)))
        rw [e1]
        exact va_sld hx hb x1 x2 x3 hS.2.2.1 hw2.1 hd (hrec _ _ _ _ _ _ _ hw2.2 ad H locs ls hS)
    · rw [if_neg hi] at hw2
      obtain ⟨cA, n, g, hi, rfl, hin, hw3⟩ := zai_s hw2
      exact va_iald hx hb hK hS.1 i 0 (za_at hi) rfl hin hd (hrec _ _ _ _ _ _ _ hw3 ad H locs ls hS)
  · obtain ⟨i, j, x, r, rfl, hw⟩ := zrii_s hw
    obtain ⟨cA, n, g, hi, rfl, hin, hw⟩ := zai_s hw
    intro ad H locs ls hS
    refine va_iast hx hb hK hS.1 hS.2.1 hS.2.2.1 i 0 (za_at hi) rfl hin hd (fun H1 locs1 hP1 hD1 hS1 => ?_)
    have he : (za_w ad h).set i (ad i, .inl (cA, n, .inl (upd g j.toNatClampNeg x))) = za_w ad (h.set i (.inl (cA, n, .inl (upd g j.toNatClampNeg x)))) := by
      rw [← za_set]; rfl
    rw [he] at hP1 hD1
    exact hrec _ _ _ _ _ _ _ hw ad H1 locs1 ls ⟨hP1, hD1, hS1, hS.2.2.2.1, (fun z => by cases z), hS.2.2.2.2.2.1, by rw [List.length_set]; exact hS.2.2.2.2.2.2.1, by rw [List.length_set]; exact hS.2.2.2.2.2.2.2⟩
  · obtain ⟨i, j, r, rfl, hw⟩ := zri_s hw
    obtain ⟨cA, n, g, hi, rfl, hin, hw⟩ := zal_s hw
    intro ad H locs ls hS
    exact va_lald hx hb hK hS.1 i 1 (za_at hi) rfl hin hd (hrec _ _ _ _ _ _ _ hw ad H locs ls hS)
  · obtain ⟨i, j, x, r, rfl, hw⟩ := zril_s hw
    obtain ⟨cA, n, g, hi, rfl, hin, hw⟩ := zal_s hw
    intro ad H locs ls hS
    refine va_last hx hb hK hS.1 hS.2.1 hS.2.2.1 i 1 (za_at hi) rfl hin hd (fun H1 locs1 hP1 hD1 hS1 => ?_)
    have he : (za_w ad h).set i (ad i, .inl (cA, n, .inr (.inl (vp_updL g j.toNatClampNeg x)))) = za_w ad (h.set i (.inl (cA, n, .inr (.inl (vp_updL g j.toNatClampNeg x))))) := by
      rw [← za_set]; rfl
    rw [he] at hP1 hD1
    exact hrec _ _ _ _ _ _ _ hw ad H1 locs1 ls ⟨hP1, hD1, hS1, hS.2.2.2.1, (fun z => by cases z), hS.2.2.2.2.2.1, by rw [List.length_set]; exact hS.2.2.2.2.2.2.1, by rw [List.length_set]; exact hS.2.2.2.2.2.2.2⟩
  · unfold zlen at hw
    obtain ⟨i, r, rfl, hw2⟩ := zr1_s hw
    clear hw
    intro ad H locs ls hS
    by_cases hi : i = 1000
    · subst hi
      rw [if_pos rfl] at hw2
      cases hs1 : sc with
      | none => rw [hs1] at hw2; exact hw2.elim
      | some q1 =>
        obtain ⟨L, xs⟩ := q1
        rw [hs1] at hw2
        obtain ⟨x1, x2, x3⟩ := hsc L xs hs1
        have e1 : ad 1000 = ad0 1000 := hS.2.2.2.2.2.1 1000 (Or.inr rfl)
        show W _ _ _ _ _ _ _ _ _ _ _ _ _ _ _ (F0 m pc ls (.ref (ad 1000) :: r.map (za_v ad)))
        rw [e1]
        exact va_slen hx hb x1 x2 x3 hS.2.2.1 hd (hrec _ _ _ _ _ _ _ hw2 ad H locs ls hS)
    · rw [if_neg hi] at hw2
      obtain ⟨cA, n, g, hi, rfl, hw3⟩ := zai_s hw2
      exact va_alen hx hb hK hS.1 i 0 (za_at hi) rfl rfl hd (hrec _ _ _ _ _ _ _ hw3 ad H locs ls hS)
  -- calls
  · exact hcall 0 _ hd hw
  · exact hcall 1 _ hd hw
  · exact hcall 2 _ hd hw
  -- new
  · rename_i i
    split at hw
    · rename_i x2 hX1
      obtain ⟨ci, ic⟩ := x2
      obtain ⟨rfl, w0, w1, w2, w3, w45, w6, w7, w8⟩ := hw
      obtain ⟨j, w4, w5⟩ := zldj_s w45
      exact hX i ci ic hX1 pc j h k q st lc w0 hd w1 w2 w3 w4 w5 w6 w7 w8
    · unfold znew at hw
      cases hN1 : NW i with
      | none => rw [hN1] at hw; exact hw.elim
      | some nw =>
        obtain ⟨ci, n, fs⟩ := nw
        rw [hN1] at hw
        obtain ⟨w1, w2, w3, w4, w5, w6, w7, hw⟩ := hw
        obtain ⟨C, T, ty0, g1, g2, g3, g4, g5, g6, g7, g8⟩ := hNW _ _ _ _ hN1
        intro ad H locs ls hS
        refine va_new (ci := ci) (fs := fs) (C := C) (T := T) (N := n) hx hb hts g2 ty0 g3 hown (hts _ g4) (hts _ g5) (hts _ g6) hK hS.1 hS.2.1 hS.2.2.1 hA g1 g7 w1 w2 hd (fun qa H1 hP1 hD1 hS1 => ?_)
        have hag : zag h.length (fun i => if i = h.length then qa else ad i) ad := fun i hi => if_neg (by omega)
        have hag' : ∀ i, i < h.length → (fun i => if i = h.length then qa else ad i) i = ad i := fun i hi => hag i (Or.inl hi)
        have hfs : fs.map (za_v ad) = fs := by
          rw [show fs = fs.map id by simp]
          simp only [List.map_map]
          apply List.map_congr_left
          intro v hv
          have := g8 v (by simpa using hv)
          cases v with
          | ref i => exact absurd rfl (this i)
          | _ => rfl
        have hpu := za_push (ad := ad) (q := qa) (x := .inr (ci, fs)) w5 w6
        have he : za_e ad (.inr (ci, fs)) = .inr (ci, fs) := by show Sum.inr (ci, fs.map (za_v ad)) = _; rw [hfs]
        rw [he] at hpu
        rw [← hpu] at hP1 hD1
        have hst : (Value.ref qa :: st.map (za_v ad)) = (Value.ref h.length :: st).map (za_v (fun i => if i = h.length then qa else ad i)) := by
          rw [List.map_cons, za_s_b hag' w4]
          simp [za_v]
        show W _ _ _ _ _ _ _ _ _ _ _ _ _ _ _ (F0 m (pc + 3) ls (Value.ref qa :: st.map (za_v ad)))
        rw [hst]
        refine hrec _ _ _ _ _ _ _ hw _ H1 locs ls ⟨hP1, hD1, hS1, zl_b hag' hS.2.2.2.1 w3, (fun z => by cases z), ?_, ?_, ?_⟩
        · intro i hi
          rw [hag i (by rcases hi with hi | hi; exact Or.inl (Nat.lt_of_lt_of_le hi hS.2.2.2.2.2.2.1); exact Or.inr hi)]
          exact hS.2.2.2.2.2.1 i hi
        · simp only [List.length_append, List.length_cons, List.length_nil]
          have := hS.2.2.2.2.2.2.1
          omega
        · intro z
          simp only [List.length_append, List.length_cons, List.length_nil] at z
          have := hS.2.2.2.2.2.2.1
          omega
  · obtain ⟨rfl, hw⟩ := hw
    obtain ⟨x, r, rfl, w1, w2, w3, w4, w5, w6, w7, w8, hw⟩ := zi1_s hw
    intro ad H locs ls hS
    refine va_newa (atype := .int) (a0 := (x.toNatClampNeg, .inl (fun _ => 0))) (ty := .int) hx hb (hts _ hAC) rfl hK hS.1 hS.2.1 hS.2.2.1 hA (fun _ => rfl) w1 rfl (by show x.toNatClampNeg * 4 ≤ _; exact w2) w3 w4 hd (fun qa cA H1 hK1 hP1 hD1 hS1 => ?_)
    have hcA : cA = cI := by
      have h1 := (hK.2 0 (cI, .int) rfl).2
      have h2 := (hK1.2 2 (cA, .int) rfl).2
      exact Option.some.inj (h2.symm.trans h1)
    subst hcA
    have hag : zag h.length (fun i => if i = h.length then qa else ad i) ad := fun i hi => if_neg (by omega)
    have hag' : ∀ i, i < h.length → (fun i => if i = h.length then qa else ad i) i = ad i := fun i hi => hag i (Or.inl hi)
    have hpu := za_push (ad := ad) (q := qa) (x := .inl (cA, x.toNatClampNeg, .inl (fun _ => 0))) w7 trivial
    have he : za_e ad (.inl (cA, x.toNatClampNeg, .inl (fun _ => 0))) = .inl (cA, x.toNatClampNeg, .inl (fun _ => 0)) := rfl
    rw [he] at hpu
    rw [← hpu] at hP1 hD1
    have hst : (Value.ref qa :: r.map (za_v ad)) = (Value.ref h.length :: r).map (za_v (fun i => if i = h.length then qa else ad i)) := by
      rw [List.map_cons, za_s_b hag' w6]
      simp [za_v]
    show W _ _ _ _ _ _ _ _ _ _ _ _ _ _ _ (F0 m (pc + 2) ls (Value.ref qa :: r.map (za_v ad)))
    rw [hst]
    refine hrec _ _ _ _ _ _ _ hw _ H1 locs ls ⟨hP1, hD1, hS1, zl_b hag' hS.2.2.2.1 w5, (fun z => by cases z), ?_, ?_, ?_⟩
    · intro i hi
      rw [hag i (by rcases hi with hi | hi; exact Or.inl (Nat.lt_of_lt_of_le hi hS.2.2.2.2.2.2.1); exact Or.inr hi)]
      exact hS.2.2.2.2.2.1 i hi
    · simp only [List.length_append, List.length_cons, List.length_nil]
      have := hS.2.2.2.2.2.2.1
      omega
    · intro z
      simp only [List.length_append, List.length_cons, List.length_nil] at z
      have := hS.2.2.2.2.2.2.1
      omega
  -- returns
  · obtain ⟨x, r, rfl, rfl, hw2⟩ := zi1_s hw
    exact hRi x h wr k q pc lc hw2 hd
  · obtain ⟨x, r, rfl, rfl, hw2⟩ := zr1_s hw
    exact hRa x h wr k q pc lc hw2 hd
  · obtain ⟨rfl, hw⟩ := hw
    exact hRv h wr k q pc lc hw hd
  · exact hw.elim
end ZST
end
section
theorem z_throw {p : Program} {l : Launch} {e : Env} {R : Room} {s : State} {m : MethodId} {args : Array Value} {below : List Frame} {meth : Method} {c : Code} {cc : ByteArray} {D : va_G} {cl : List vw_C} {A : Nat → Prop} {tys : List (ClassId × FieldType)} {own : String} {Ts : List Cond} {i ci ic j k q mc ms pc : Nat} {ls : Array Slot} {st : List Value} {Qc : Array Value → State → Outcome → State → Prop} {free : Addr → Prop}
    (hX : zXok Ts cl own i ci ic) (hSj : zSok own j) (hx : p.tables.exec = Jvm.exec) (hb : c.code = cc) (hown : s.vm.findClass own = some m.cls) (hts : ∀ w ∈ Ts, w.before args s = true) (hK : va_K D cl tys s) (hEX : zEX A s) (hl : l.stackTraces = false)
    (hem : c.exceptionTable.toList = []) (hsz : ls.size = c.maxLocals) (hlocks : meth.locks = false) (hRf : 6 ≤ R.frames) (hRl : (st.map fun v => v.category).sum + 90 ≤ R.locals) (hk : k + 1 ≤ R.cells) (hq : q + 6 ≤ R.slots) (hmc : R.cells ≤ mc) (hms : R.slots ≤ ms)
    (d0 : decode cc pc = .ok (.new i, 3)) (d3 : decode cc (pc + 3) = .ok (.dup, 1)) (d4 : decode cc (pc + 4) = .ok (.ldc j, 2)) (d6 : decode cc (pc + 6) = .ok (.invokespecial ic, 3)) (d9 : decode cc (pc + 9) = .ok (.athrow, 1))
    (hQ : ∀ (a : Addr) (t : State), va_at D cl (a, .inr (ci, [])) t.heap → (∀ z : Nat, z < s.heap.size → t.heap[z]? = s.heap[z]?) → s.heap.size ≤ t.heap.size → Qc args s (.threw a) t) :
    W p l e R s m args below meth c s.heap [] k q (zMQ below Qc args s mc ms free) (F0 m pc ls st) := by
  obtain ⟨cls, names, T0, h1, h2, h3, h4, h5, h6, h7, h8⟩ := hX
  obtain ⟨tx, htx⟩ := hSj
  obtain ⟨sa, hsa⟩ := hEX.2.2.1 _ htx
  have hr := vx_throwS (R := R) (Qc := fun _ _ _ _ => False) (XC := fun E st t => E = cls ∧ st.heap.size ≤ t.heap.size ∧ ∀ z : Nat, z < st.heap.size → t.heap[z]? = st.heap[z]?) (free := free) (mc := mc) (ms := ms) (below := below) (cells := k) (slots := q) (locs := []) (H := s.heap) (ls := ls) (rest := st) (e := e)
    hx hb hl hown h2 h3 (hts _ h5) (hts _ h6) hsa (fun w hw => hts w (h7 w hw)) h8 hEX.1 hEX.2.1 va_S.rf hsz d0 d3 d4 d6 d9 (fun x hx => by rw [hem] at hx; cases hx) (by omega) (by omega) hk hq hlocks (fun t _ g1 g2 => ⟨rfl, g1, g2⟩) (fun z hz => by cases hz) (by omega) (by omega)
  intro T hT X
  obtain ⟨t, g1, o, g2, g3, g4⟩ := hr T hT X
  refine ⟨t, g1, o, g2, g3, ?_⟩
  rcases g4 with ⟨g4, -⟩ | ⟨a, rfl, E, ce, L, ⟨rfl, g5, g6⟩, g7, g8, g9, g10, g11, g12⟩
  · exact g4.elim
  · have hcl := (hK.1 ci _ h1).2.1
    refine ⟨hQ a t ⟨_, h1, ce, g7, Option.some.inj (g9.symm.trans hcl), g8, fun k hk => absurd hk (Nat.not_lt_zero k)⟩ g6 g5, L, ⟨g10, g11⟩, g12⟩
-- contracts
def zQ (D : va_G) (cl : List vw_C) (K : zO → zH → Prop) (ad0 : Nat → Nat) (h : zH) (sz : Nat) (ro : Bool) : Array Value → State → Outcome → State → Prop := fun _ st o t =>
  (∃ (ad' : Nat → Nat) (out : zO) (h' : zH), K out h' ∧ zag h.length ad' ad0 ∧ (h'.length = h.length → ad' = ad0) ∧ h.length ≤ h'.length ∧ va_P D cl (za_w ad' h') t.heap ∧ va_D (va_A (za_w ad0 h) sz) (za_w ad' h') ∧
    (match out with
      | .inl v => o = .returned (v.map (za_v ad')) ∧ (ro = true → t.heap = st.heap)
      | .inr ci => ∃ a, o = .threw a ∧ va_at D cl (a, .inr (ci, [])) t.heap)) ∧ va_F (va_A (za_w ad0 h) sz) st t
def zPc (D : va_G) (cl : List vw_C) (cI cL : ClassId) (as : List Value) (h : zH) (ad0 : Nat → Nat) (sz : Nat) : Array Value → State → Prop :=
  va_Pc (as.map (za_v ad0)) (fun U => U.heap.size = sz ∧ va_P D cl (za_w ad0 h) U.heap ∧ va_K D cl [(cI, .int), (cL, .long)] U ∧ va_D (fun _ => True) (za_w ad0 h) ∧ zEX (va_A (za_w ad0 h) sz) U)
/-- the contract of a method: what T says, at any heap -/
def zC (l : Launch) (y : MethodName) (ws : List Cond) (rm : Room) (cl : List vw_C) (ro : Bool) (mc ms : Nat) (T : ClassId → ClassId → zT) : Prop :=
  ∀ (D : va_G) (cI cL : ClassId) (as : List Value) (h : zH) (K : zO → zH → Prop) (ad0 : Nat → Nat) (sz : Nat), T cI cL as h K →
    zMet l y ws rm (zPc D cl cI cL as h ad0 sz) (zQ D cl K ad0 h sz ro) mc ms (fun q => ro = false ∧ va_A (za_w ad0 h) sz q)
theorem zPc_blind {D : va_G} {cl : List vw_C} {cI cL : ClassId} {as : List Value} {h : zH} {ad0 : Nat → Nat} {sz : Nat} : FrameBlind (zPc D cl cI cL as h ad0 sz) := by
  intro a U g mk q
  obtain ⟨q0, q1, qP, qK, qD, qE⟩ := q
  exact ⟨q0, q1, qP, va_K.moved (u := U) (U := U.calling g mk a) (Vm.Alike.refl U.vm) qK, qD, zEX_f qE⟩
section ZROW
variable {p : Program} {l : Launch} {e : Env} {R : Room} {s : State} {m : MethodId} {args : Array Value} {below : List Frame} {meth : Method} {c : Code}
variable {cc : ByteArray} {D : va_G} {cl : List vw_C} {A : Nat → Prop} {nL : Nat} {own : String} {cI cL : ClassId} {Ts : List Cond}
/-- behind the linking of any invoking instruction -/
theorem z_row {y : MethodName} {ws : List Cond} {rm : Room} {ro : Bool} {mc ms maxL : Nat} {T : ClassId → ClassId → zT} (hC : zC l y ws rm cl ro mc ms T) (hx : p.tables.exec = Jvm.exec) (hb : c.code = cc) (hml : c.maxLocals = nL) (hK : va_K D cl [(cI, .int), (cL, .long)] s) (hA : ∀ q, s.heap.size ≤ q → A q) (hEX : zEX A s)
    (hws : ∀ w ∈ ws, ∀ (a' : Array Value) (U : State), s.WarmedH U.vm → w.before a' U = true) (hini : ∀ (a' : Array Value) (U : State), s.WarmedH U.vm → (Cond.initialized y.cls).before a' U = true)
    (hfr : rm.frames + 1 ≤ R.frames) (hlo : 8 + (maxL + 11) + rm.locals ≤ R.locals) (hrc : rm.cells = mc) (hrs : rm.slots = ms)
    {mk : MethodId} (hn : s.methodNamed? y = some mk) {methY : Method} {cY : Code} (hmY : s.vm.method? mk = some methY) (hcY : methY.code = some cY) (hlY : cY.maxLocals = maxL)
    {Q : State → Prop} {pc : Nat} {ls : Array Slot} {as rest : List Value} {h : zH} {ad : Nat → Nat} {H : Heap} {locs : List Loc} {k q : Nat} {K' : zO → zH → Prop} {ig : Instr}
    (hd : decode cc pc = .ok (ig, 3)) (hsz : ls.size = nL) (hcat : (rest.map fun v => v.category).sum ≤ 8) (hk : k + mc ≤ R.cells) (hq : q + ms ≤ R.slots) (hP : va_P D cl (za_w ad h) H) (hD : va_D A (za_w ad h)) (hS : va_S A s.heap H locs) (hT : T cI cL as h K')
    (hcont : ∀ (o : zO) (h' : zH) (ad' : Nat → Nat) (H1 : Heap) (locs1 : List Loc), K' o h' → zag h.length ad' ad → (h'.length = h.length → ad' = ad) → h.length ≤ h'.length → va_P D cl (za_w ad' h') H1 → va_D A (za_w ad' h') → va_S A s.heap H1 locs1 →
      (∀ v, o = .inl v → ro = true → H1 = H ∧ locs1 = locs) → zAft p l e R s m args below meth c D cl H1 locs1 (k + mc) (q + ms) Q pc ls (rest.map (za_v ad)) ad' o)
    (T0 : State) (hT0 : T0.heap = H) (X : Stand p l e R s m args below meth c T0 locs k q) (vm₁ : Vm) (X₁ : Stand p l e R s m args below meth c (T0.setVm vm₁) locs k q) (g0 : JFrame)
    (hstep : ∀ target, (∀ acts, Steps p.tables e below (doInvoke e ((T0.setVm vm₁).setTop (F0 m pc ls (rest.map (za_v ad)))) acts mk (as.map (za_v ad)).toArray).1 target) → Steps p.tables e below (T0.setTop g0) target) :
    ∃ t, Steps p.tables e below (T0.setTop g0) t ∧ Q t := by
  have hfree : ∀ z, va_A (za_w ad h) H.size z → A z := by
    intro z hz
    rcases hz with ⟨i, x, hi⟩ | hz
    · exact hD.2 i _ hi
    · exact hA z (Nat.le_trans hS.1 hz)
  have hW1 : s.WarmedH (T0.setVm vm₁).vm := X₁.warmed
  have hcatA : ((rest.map (za_v ad)).map fun v => v.category).sum ≤ 8 := by
    rw [List.map_map]
    have : (rest.map ((fun v => v.category) ∘ za_v ad)) = rest.map (fun v => v.category) := List.map_congr_left (fun v _ => za_cat ad v)
    rw [this]; exact hcat
  obtain ⟨o, t, U', L, hQ, hL, X', eh, ev, hout⟩ := z_back (maxL := maxL) (hC D cI cL as h K' ad H.size hT) X₁ (g := F0 m pc ls (rest.map (za_v ad))) rfl (by show ls.size = _; rw [hml]; exact hsz) (ig := ig) (len := 3) (by rw [hb]; exact hd) (by show 2 * 0 + ((rest.map (za_v ad)).map fun v => v.category).sum ≤ 8; omega)
    (X₁.named hn) (by rw [hW1.alike.method?]; exact hmY) hcY hlY (a := (as.map (za_v ad)).toArray) (hini _ _ hW1) (fun w hw => hws w hw _ _ hW1) hfr hlo hrc hrs hk hq
    (zPc_blind _ _ _ _ ⟨rfl, by show T0.heap.size = _; rw [hT0], by show va_P D cl _ T0.heap; rw [hT0]; exact hP, va_K.moved hW1.alike hK, hD.weaken (fun _ _ _ _ => trivial), zEX_t hEX hfree (fun z h1 h2 => by show T0.heap[z]? = _; rw [hT0]; exact hS.2.1 z h1 h2) hW1⟩)
  obtain ⟨⟨ad', out, h', hK', hag, hfx, hlen, hP1, hD1, hm⟩, hF1, hF2⟩ := hQ
  have hF1 : H.size ≤ t.heap.size := by have := hF1; rw [show ((T0.setVm vm₁).calling (F0 m pc ls (rest.map (za_v ad))) mk (as.map (za_v ad)).toArray).heap = H from hT0] at this; exact this
  have hF2 : ∀ z : Nat, z < H.size → ¬ va_A (za_w ad h) H.size z → t.heap[z]? = H[z]? := by
    intro z h1 h2
    have := hF2 z (by rw [show ((T0.setVm vm₁).calling (F0 m pc ls (rest.map (za_v ad))) mk (as.map (za_v ad)).toArray).heap = H from hT0]; exact h1) h2
    rw [show ((T0.setVm vm₁).calling (F0 m pc ls (rest.map (za_v ad))) mk (as.map (za_v ad)).toArray).heap = H from hT0] at this
    exact this
  have hS1 : va_S A s.heap U'.heap (locs ++ L) := by
    refine ⟨Nat.le_trans hS.1 (by rw [eh]; exact hF1), fun z h1 h2 => ?_, fun z hz => ?_⟩
    · rw [eh, hF2 z (Nat.lt_of_lt_of_le h1 hS.1) (fun y => h2 (hfree z y))]
      exact hS.2.1 z h1 h2
    · rcases List.mem_append.mp hz with hz | hz
      · exact hS.2.2 z hz
      · exact hfree _ (hL z hz).2
  have hro : ∀ v, out = .inl v → ro = true → U'.heap = H ∧ locs ++ L = locs := by
    intro v hv hr
    subst hv
    refine ⟨?_, ?_⟩
    · rw [eh, hm.2 hr]; exact hT0
    · cases L with
      | nil => simp
      | cons a b => have := (hL a List.mem_cons_self).1; rw [hr] at this; cases this
  have hgo := hcont out h' ad' U'.heap (locs ++ L) hK' hag hfx hlen (by rw [eh]; exact hP1) (hD1.weaken (fun i x hi _ => hfree _ (hD1.2 i x hi))) hS1 hro
  cases out with
  | inl v =>
    obtain ⟨ho, -⟩ := hm
    rcases hout with ⟨v', e1, hs⟩ | ⟨x, e1, hs⟩
    · rw [ho] at e1
      cases e1
      obtain ⟨t2, s2, q2⟩ := hgo U' rfl X'
      exact ⟨t2, hstep t2 (fun acts => by rw [doInvoke_state]; exact hs.trans s2), q2⟩
    · rw [ho] at e1; cases e1
  | inr ci =>
    obtain ⟨a, ho, hat⟩ := hm
    rcases hout with ⟨v', e1, hs⟩ | ⟨x, e1, hs⟩
    · rw [ho] at e1; cases e1
    · rw [ho] at e1
      cases e1
      obtain ⟨t2, s2, q2⟩ := hgo a (by rw [eh]; exact hat) U' rfl X'
      exact ⟨t2, hstep t2 (fun acts => by rw [doInvoke_state]; exact hs.trans s2), q2⟩
end ZROW
end
section
/-- the tables' words that survive the warming of the tables -/
def zgood (w : Cond) : Bool := match w with
  | .fieldLinkNest .. => true
  | .methodLinkNest .. => true
  | .declares _ => true
  | .castable .. => true
  | w => goodWord w
theorem zgood_w {w : Cond} (hg : zgood w = true) {args a' : Array Value} {s U : State} (hW : s.WarmedH U.vm) (h : w.before args s = true) : w.before a' U = true := by
  unfold zgood at hg
  split at hg
  · exact va_Nw.use rfl (va_Nw.warmF hW (va_Nw.of rfl h))
  · exact va_Nw.use rfl (va_Nw.warmM hW (va_Nw.of rfl h))
  · exact va_Nw.use rfl (va_Nw.warmD hW (va_Nw.of rfl h))
  · exact va_Nw.use rfl (va_Nw.warmC hW (va_Nw.of rfl h))
  · exact word_at hW (good_of_word hg) h
/-- what a method's code word says, with a handler table or without -/
def zcw (w : Cond) (y : MethodName) (maxL : Nat) : Prop := (∃ bytes ret, w = Cond.code y bytes maxL ret) ∨ ∃ bytes ret hh, w = Cond.codeWith y bytes maxL ret hh
theorem zcw_s {w : Cond} {y : MethodName} {maxL : Nat} (h : zcw w y maxL) {args : Array Value} {s : State} (hw : w.before args s = true) :
    ∃ (mk : MethodId) (methY : Method) (cY : Code), s.methodNamed? y = some mk ∧ s.vm.method? mk = some methY ∧ methY.code = some cY ∧ cY.maxLocals = maxL ∧ parseMethodDescriptor y.desc = some methY.sig := by
  rcases h with ⟨bytes, ret, rfl⟩ | ⟨bytes, ret, hh, rfl⟩
  · obtain ⟨mk, hnamed⟩ := Cond.code_named hw
    obtain ⟨methM, cM, h1, h2, -, h4, -, -, -, h8⟩ := Cond.code_spec hnamed hw
    exact ⟨mk, methM, cM, hnamed, h1, h2, h4, h8⟩
  · obtain ⟨m9, meth, c, hn9, h1, h2, h3, h4, -, h5, h6, h7⟩ := Cond.codeWith_spec hw
    exact ⟨m9, meth, c, hn9, h1, h2, h4, h7⟩
section ZROWS
variable {p : Program} {l : Launch} {e : Env} {R : Room} {s : State} {m : MethodId} {args : Array Value} {below : List Frame} {meth : Method} {c : Code}
variable {cc : ByteArray} {D : va_G} {cl : List vw_C} {A : Nat → Prop} {nL : Nat} {own : String} {cI cL : ClassId} {Ts : List Cond}
theorem zRow_S {y : MethodName} {ws ws' : List Cond} {cw : Cond} {rm : Room} {fx ro : Bool} {mc ms maxL na idx : Nat} {T : ClassId → ClassId → zT} (hC : zC l y ws rm cl ro mc ms T) (hw : ws = cw :: ws') (hcw : zcw cw y maxL) (hx : p.tables.exec = Jvm.exec) (hb : c.code = cc) (hml : c.maxLocals = nL) (hown : s.vm.findClass own = some m.cls) (hts : ∀ w ∈ Ts, w.before args s = true) (hK : va_K D cl [(cI, .int), (cL, .long)] s) (hA : ∀ q, s.heap.size ≤ q → A q) (hEX : zEX A s)
    (hin : ∀ w ∈ ws, w ∈ Ts ∧ zgood w = true) (hini : Cond.initialized y.cls ∈ Ts) (hst : Cond.static y ∈ Ts) (hlk : Cond.methodLink own idx y ∈ Ts ∨ ∃ host, Cond.methodLinkNest own idx y host ∈ Ts)
    (hy : y.cls ≠ "java/lang/invoke/MethodHandle" ∧ y.cls ≠ "java/lang/invoke/VarHandle") (hna : (parseMethodDescriptor y.desc).map (fun d => d.parameters.length) = some na)
    (hR : rm.frames + 1 ≤ R.frames ∧ 8 + (maxL + 11) + rm.locals ≤ R.locals) (hrc : rm.cells = mc) (hrs : rm.slots = ms) :
    zRow p l e R s m args below meth c cc D cl A nL 0 idx (na, none, fx, ro, mc, ms, T cI cL) := by
  intro Q pc ls as rest h ad H locs k q K' hd hlen hrv hsz hcat hk hq hP hD hS hT hcont T0 hT0 X
  have hcode := hts cw (hin cw (by rw [hw]; exact List.mem_cons_self)).1
  obtain ⟨mk, methY, cY, hn, hmY, hcY, hlY, hsig⟩ := zcw_s hcw hcode
  have hstatic : methY.isStatic = true := Cond.static_spec hn hmY (hts _ hst)
  obtain ⟨kP, hkP, -⟩ := className_of_methodNamed hn
  have hinitP : kP.init = .initialized := Cond.initialized_spec (findClass_of_methodNamed hn) hkP (hts _ hini)
  have hlen' : (as.map (za_v ad)).length = methY.sig.parameters.length := by
    rw [hsig] at hna
    have := Option.some.inj hna
    rw [List.length_map, hlen]; exact this.symm
  have hstk : (F0 m pc ls ((as.reverse ++ rest).map (za_v ad))).stack = (as.map (za_v ad)).reverse ++ rest.map (za_v ad) := by
    show (as.reverse ++ rest).map (za_v ad) = _
    rw [List.map_append, List.map_reverse]
  have hgo := z_row hC hx hb hml hK hA hEX (fun w hw a' U hW => zgood_w (hin w hw).2 hW (hts w (hin w hw).1)) (fun a' U hW => zgood_w rfl hW (hts _ hini)) hR.1 hR.2 hrc hrs hn hmY hcY hlY hd hsz hcat hk hq hP hD hS hT hcont T0 hT0 X
  rcases hlk with hlk | ⟨host, hlk⟩
  · obtain ⟨vm₁, X₁, hstep₁⟩ := X.invokestatic hx hown (hts _ hlk) hn hmY hstatic hkP hinitP hy (g := F0 m pc ls ((as.reverse ++ rest).map (za_v ad))) rfl (argsL := as.map (za_v ad)) (rest := rest.map (za_v ad)) hlen' hstk (by rw [hb]; exact hd)
    exact hgo vm₁ X₁ _ hstep₁
  · obtain ⟨vm₁, X₁, hstep₁⟩ := X.invokestaticNest hx hown (hts _ hlk) hn hmY hstatic hkP hinitP hy (g := F0 m pc ls ((as.reverse ++ rest).map (za_v ad))) rfl (argsL := as.map (za_v ad)) (rest := rest.map (za_v ad)) hlen' hstk (by rw [hb]; exact hd)
    exact hgo vm₁ X₁ _ hstep₁
theorem zRow_V {y : MethodName} {ws ws' : List Cond} {cw : Cond} {rm : Room} {fx ro : Bool} {mc ms maxL na idx ci N : Nat} {Tt : u_T} {T : ClassId → ClassId → zT} (hC : zC l y ws rm cl ro mc ms T) (hw : ws = cw :: ws') (hcw : zcw cw y maxL) (hx : p.tables.exec = Jvm.exec) (hb : c.code = cc) (hml : c.maxLocals = nL) (hown : s.vm.findClass own = some m.cls) (hts : ∀ w ∈ Ts, w.before args s = true) (hK : va_K D cl [(cI, .int), (cL, .long)] s) (hA : ∀ q, s.heap.size ≤ q → A q) (hEX : zEX A s)
    (hin : ∀ w ∈ ws, w ∈ Ts ∧ zgood w = true) (hini : Cond.initialized y.cls ∈ Ts) (hst : Cond.instanceMethod y ∈ Ts) (hsel : Cond.selects y.cls y y ∈ Ts) (hcl : cl[ci]? = some (y.cls, Tt, N)) (hlk : Cond.methodLink own idx y ∈ Ts ∨ ∃ host, Cond.methodLinkNest own idx y host ∈ Ts)
    (hy : y.cls ≠ "java/lang/invoke/MethodHandle" ∧ y.cls ≠ "java/lang/invoke/VarHandle") (hna : (parseMethodDescriptor y.desc).map (fun d => d.parameters.length) = some na)
    (hR : rm.frames + 1 ≤ R.frames ∧ 8 + (maxL + 11) + rm.locals ≤ R.locals) (hrc : rm.cells = mc) (hrs : rm.slots = ms) :
    zRow p l e R s m args below meth c cc D cl A nL 1 idx (na + 1, some ci, fx, ro, mc, ms, T cI cL) := by
  intro Q pc ls as rest h ad H locs k q K' hd hlen hrv hsz hcat hk hq hP hD hS hT hcont T0 hT0 X
  have hcode := hts cw (hin cw (by rw [hw]; exact List.mem_cons_self)).1
  obtain ⟨mk, methY, cY, hn, hmY, hcY, hlY, hsig⟩ := zcw_s hcw hcode
  obtain ⟨mk', methM, hn', hmethM, hstM, habM⟩ := Cond.instanceMethod_spec (hts _ hst)
  cases hn.symm.trans hn'
  cases hmY.symm.trans hmethM
  match as, hlen, hrv with
  | .ref i :: as, hlen, hrv =>
  obtain ⟨fs, hi, -⟩ := zob_s hrv
  obtain ⟨cellB, hcB, hoB, hclB⟩ := va_recv hK hP hcl (za_at hi)
  obtain ⟨c2, r2, m2, q1, q2, q3, q4, kP, hkP, hkPi⟩ := Cond.selects_spec (hts _ hsel)
  cases hclB.symm.trans q1
  cases (State.methodFound?_of_named hn hy).symm.trans q2
  cases hn.symm.trans q3
  have hselP : selectMethod e.platform s.vm cellB.cls mk = .method mk := by rw [Launch.admits_selectMethod X.admits]; exact q4
  have hlen' : (as.map (za_v ad)).length = methY.sig.parameters.length := by
    rw [hsig] at hna
    have := Option.some.inj hna
    have h9 : (Value.ref i :: as).length = na + 1 := hlen
    have h8 : methY.sig.parameters.length = na := this
    rw [List.length_map, h8]
    simpa using h9
  have hstk : (F0 m pc ls (((Value.ref i :: as).reverse ++ rest).map (za_v ad))).stack = (as.map (za_v ad)).reverse ++ .ref (ad i) :: rest.map (za_v ad) := by
    show ((Value.ref i :: as).reverse ++ rest).map (za_v ad) = _
    simp [List.map_append, List.map_reverse, za_v]
  have hgo := z_row hC hx hb hml hK hA hEX (fun w hw a' U hW => zgood_w (hin w hw).2 hW (hts w (hin w hw).1)) (fun a' U hW => zgood_w rfl hW (hts _ hini)) hR.1 hR.2 hrc hrs hn hmY hcY hlY hd hsz hcat hk hq hP hD hS hT hcont T0 hT0 X
  rcases hlk with hlk | ⟨host, hlk⟩
  · obtain ⟨vm₁, X₁, hstep₁⟩ := X.invokevirtual hx hown (hts _ hlk) hn hmY hstM hkP hkPi hy (a := ad i) (cell := cellB) (by rw [hT0]; exact hcB) (fun z h => by rw [h] at hoB; cases hoB) hselP hmY habM hkP hkPi (g := F0 m pc ls (((Value.ref i :: as).reverse ++ rest).map (za_v ad))) rfl (argsL := as.map (za_v ad)) (rest := rest.map (za_v ad)) hlen' hstk (by rw [hb]; exact hd)
    exact hgo vm₁ X₁ _ hstep₁
  · obtain ⟨vm₁, X₁, hstep₁⟩ := X.invokevirtualNest hx hown (hts _ hlk) hn hmY hstM hkP hkPi hy (a := ad i) (cell := cellB) (by rw [hT0]; exact hcB) (fun z h => by rw [h] at hoB; cases hoB) hselP hmY habM hkP hkPi (g := F0 m pc ls (((Value.ref i :: as).reverse ++ rest).map (za_v ad))) rfl (argsL := as.map (za_v ad)) (rest := rest.map (za_v ad)) hlen' hstk (by rw [hb]; exact hd)
    exact hgo vm₁ X₁ _ hstep₁
theorem zRow_I {y : MethodName} {ws ws' : List Cond} {bytes : ByteArray} {rm : Room} {fx ro : Bool} {mc ms maxL na idx : Nat} {T : ClassId → ClassId → zT} (hC : zC l y ws rm cl ro mc ms T) (hw : ws = Cond.code y bytes maxL none :: ws') (hx : p.tables.exec = Jvm.exec) (hb : c.code = cc) (hml : c.maxLocals = nL) (hown : s.vm.findClass own = some m.cls) (hts : ∀ w ∈ Ts, w.before args s = true) (hK : va_K D cl [(cI, .int), (cL, .long)] s) (hA : ∀ q, s.heap.size ≤ q → A q) (hEX : zEX A s)
    (hin : ∀ w ∈ ws, w ∈ Ts ∧ zgood w = true) (hini : Cond.initialized y.cls ∈ Ts) (hst : Cond.instanceMethod y ∈ Ts) (hlk : Cond.methodLink own idx y ∈ Ts ∨ ∃ host, Cond.methodLinkNest own idx y host ∈ Ts) (hyn : y.name = "<init>")
    (hy : y.cls ≠ "java/lang/invoke/MethodHandle" ∧ y.cls ≠ "java/lang/invoke/VarHandle") (hna : (parseMethodDescriptor y.desc).map (fun d => d.parameters.length) = some na) (hTr : ∀ as h K, T cI cL as h K → ∃ i as', as = .ref i :: as')
    (hR : rm.frames + 1 ≤ R.frames ∧ 8 + (maxL + 11) + rm.locals ≤ R.locals) (hrc : rm.cells = mc) (hrs : rm.slots = ms) :
    zRow p l e R s m args below meth c cc D cl A nL 2 idx (na + 1, none, fx, ro, mc, ms, T cI cL) := by
  intro Q pc ls as rest h ad H locs k q K' hd hlen hrv hsz hcat hk hq hP hD hS hT hcont T0 hT0 X
  have hcode : (Cond.code y bytes maxL none).before args s = true := hts _ (hin _ (by rw [hw]; exact List.mem_cons_self)).1
  obtain ⟨mk, methY, cY, hn, hmY, hcY, hlY, hsig⟩ := zcw_s (Or.inl ⟨bytes, none, rfl⟩) hcode
  obtain ⟨i, as', rfl⟩ := hTr _ _ _ hT
  have hlen' : ∀ sig, parseMethodDescriptor y.desc = some sig → (as'.map (za_v ad)).length = sig.parameters.length := by
    intro sig hs1
    rw [hs1] at hna
    have := Option.some.inj hna
    have h9 : (Value.ref i :: as').length = na + 1 := hlen
    have h8 : sig.parameters.length = na := this
    rw [List.length_map, h8]
    simpa using h9
  have hstk : (F0 m pc ls (((Value.ref i :: as').reverse ++ rest).map (za_v ad))).stack = (as'.map (za_v ad)).reverse ++ .ref (ad i) :: rest.map (za_v ad) := by
    show ((Value.ref i :: as').reverse ++ rest).map (za_v ad) = _
    simp [List.map_append, List.map_reverse, za_v]
  have hpl : e.platform.magicAccessors = ({} : Platform).magicAccessors := by rw [X.admits.platform]
  have hgo := z_row hC hx hb hml hK hA hEX (fun w hw a' U hW => zgood_w (hin w hw).2 hW (hts w (hin w hw).1)) (fun a' U hW => zgood_w rfl hW (hts _ hini)) hR.1 hR.2 hrc hrs hn hmY hcY hlY hd hsz hcat hk hq hP hD hS hT hcont T0 hT0 X
  rcases hlk with hlk | ⟨host, hlk⟩
  · obtain ⟨mk', methM, cM, kP, vm₁, hn', hmethM, hcodeM, -, hlocalsM, -, hkP, -, hW₁, hstep₁⟩ := Steps.initColdArgs (e := e) X.here hx X.warmed hpl hown hyn hy (hts _ hlk) (hts _ hst) hcode (f := F0 m pc ls (((Value.ref i :: as').reverse ++ rest).map (za_v ad))) rfl hlen' hstk (by rw [hb]; exact hd)
    cases hn.symm.trans hn'
    exact hgo vm₁ (X.noted hW₁) _ hstep₁
  · obtain ⟨mk', methM, cM, kP, vm₁, hn', hmethM, hcodeM, -, hlocalsM, -, hkP, -, hW₁, hstep₁⟩ := Steps.initColdArgsNest (e := e) X.here hx X.warmed hpl hown hyn hy (hts _ hlk) (hts _ hst) hcode (f := F0 m pc ls (((Value.ref i :: as').reverse ++ rest).map (za_v ad))) rfl hlen' hstk (by rw [hb]; exact hd)
    cases hn.symm.trans hn'
    exact hgo vm₁ (X.noted hW₁) _ hstep₁
end ZROWS
end
section
section ZROWO
variable {p : Program} {l : Launch} {e : Env} {R : Room} {s : State} {m : MethodId} {args : Array Value} {below : List Frame} {meth : Method} {c : Code}
variable {cc : ByteArray} {D : va_G} {cl : List vw_C} {A : Nat → Prop} {nL : Nat} {own : String} {Ts : List Cond}
/-- what Object's constructor does: nothing -/
def zT_obj : zT := fun as h K => match as with
  | [.ref _] => K (.inl none) h
  | _ => False
def zT_max : zT := fun as h K => match as with
  | [.int x, .int y] => K (.inl (some (.int (if x < y then y else x)))) h
  | _ => False
def zT_min : zT := fun as h K => match as with
  | [.int x, .int y] => K (.inl (some (.int (if y < x then y else x)))) h
  | _ => False
theorem zRow_obj {idx : Nat} (hx : p.tables.exec = Jvm.exec) (hb : c.code = cc) (hml : c.maxLocals = nL) (hown : s.vm.findClass own = some m.cls) (hts : ∀ w ∈ Ts, w.before args s = true) (h1 : Cond.methodLink own idx Lib.objectInit ∈ Ts) (h2 : Cond.instanceMethod Lib.objectInit ∈ Ts) (h3 : Cond.code Lib.objectInit ⟨#[0xb1]⟩ 1 none ∈ Ts) (hf : 1 ≤ R.frames) (hl : 20 ≤ R.locals) :
    zRow p l e R s m args below meth c cc D cl A nL 2 idx (1, none, true, true, 0, 0, zT_obj) := by
  intro Q pc ls as rest h ad H locs k q K' hd hlen hrv hsz hcat hk hq hP hD hS hT hcont
  match as, hT with
  | [.ref i], hT =>
  refine W.objInit (a := ad i) (rest := rest.map (za_v ad)) hx hb hown (hts _ h1) (hts _ h2) (hts _ h3) rfl (by show ls.size = _; rw [hml]; exact hsz) rfl hd hf ?_ ?_
  · show 2 * 0 + _ + 12 ≤ _
    rw [List.map_map]
    have : (rest.map ((fun v => v.category) ∘ za_v ad)) = rest.map (fun v => v.category) := List.map_congr_left (fun v _ => za_cat ad v)
    rw [this]
    omega
  · exact hcont (.inl none) h ad H locs hT (fun _ _ => rfl) (fun _ => rfl) (Nat.le_refl _) hP hD hS (fun _ _ _ => ⟨rfl, rfl⟩)
theorem zRow_max {idx : Nat} (hx : p.tables.exec = Jvm.exec) (hb : c.code = cc) (hml : c.maxLocals = nL) (hown : s.vm.findClass own = some m.cls) (hts : ∀ w ∈ Ts, w.before args s = true) (h1 : Cond.methodLink own idx Lib.Math.max.name ∈ Ts) (h2 : Cond.static Lib.Math.max.name ∈ Ts) (h3 : Cond.initialized "java/lang/Math" ∈ Ts) (h4 : Cond.code Lib.Math.max.name Lib.Math.max.code 2 (some .int) ∈ Ts) (hf : 1 ≤ R.frames) (hl : 21 ≤ R.locals) :
    zRow p l e R s m args below meth c cc D cl A nL 0 idx (2, none, true, true, 0, 0, zT_max) := by
  intro Q pc ls as rest h ad H locs k q K' hd hlen hrv hsz hcat hk hq hP hD hS hT hcont
  match as, hT with
  | [.int x, .int y], hT =>
  refine va_mmax (x := x) (y := y) (rest := rest.map (za_v ad)) hx hb (by rw [hml]; exact hsz.symm) hown (hts _ h1) (hts _ h2) (hts _ h3) (hts _ h4) hf ?_ hk hq hd ?_
  · rw [List.map_map]
    have : (rest.map ((fun v => v.category) ∘ za_v ad)) = rest.map (fun v => v.category) := List.map_congr_left (fun v _ => za_cat ad v)
    rw [this]
    omega
  · exact hcont _ h ad H locs hT (fun _ _ => rfl) (fun _ => rfl) (Nat.le_refl _) hP hD hS (fun _ _ _ => ⟨rfl, rfl⟩)
theorem zRow_min {idx : Nat} (hx : p.tables.exec = Jvm.exec) (hb : c.code = cc) (hml : c.maxLocals = nL) (hown : s.vm.findClass own = some m.cls) (hts : ∀ w ∈ Ts, w.before args s = true) (h1 : Cond.methodLink own idx Lib.Math.min.name ∈ Ts) (h2 : Cond.static Lib.Math.min.name ∈ Ts) (h3 : Cond.initialized "java/lang/Math" ∈ Ts) (h4 : Cond.code Lib.Math.min.name Lib.Math.min.code 2 (some .int) ∈ Ts) (hf : 1 ≤ R.frames) (hl : 21 ≤ R.locals) :
    zRow p l e R s m args below meth c cc D cl A nL 0 idx (2, none, true, true, 0, 0, zT_min) := by
  intro Q pc ls as rest h ad H locs k q K' hd hlen hrv hsz hcat hk hq hP hD hS hT hcont
  match as, hT with
  | [.int x, .int y], hT =>
  refine va_mmin (x := x) (y := y) (rest := rest.map (za_v ad)) hx hb (by rw [hml]; exact hsz.symm) hown (hts _ h1) (hts _ h2) (hts _ h3) (hts _ h4) hf ?_ hk hq hd ?_
  · rw [List.map_map]
    have : (rest.map ((fun v => v.category) ∘ za_v ad)) = rest.map (fun v => v.category) := List.map_congr_left (fun v _ => za_cat ad v)
    rw [this]
    omega
  · exact hcont _ h ad H locs hT (fun _ _ => rfl) (fun _ => rfl) (Nat.le_refl _) hP hD hS (fun _ _ _ => ⟨rfl, rfl⟩)
end ZROWO
-- the entry
def zlc (nL : Nat) (as : List Value) : zLc := as.map some ++ List.replicate (nL - as.length) none
theorem zl_entry {as : List Value} {ad : Nat → Nat} {n : Nat} (hc : ∀ v ∈ as, v.category = 1) (hn : as.length ≤ n) :
    zl_has ad ((lg_sl (as.map (za_v ad)) ++ List.replicate (n - (lg_sl (as.map (za_v ad))).length) Slot.unset).toArray) n (zlc n as) := by
  have hsl : lg_sl (as.map (za_v ad)) = as.map (fun v => Slot.val (za_v ad v)) := by
    clear hn
    induction as with
    | nil => rfl
    | cons a r ih =>
      have h1 : (za_v ad a).category = 1 := by rw [za_cat]; exact hc a List.mem_cons_self
      have := ih (fun v hv => hc v (List.mem_cons_of_mem _ hv))
      unfold lg_sl at this ⊢
      simp only [List.map_cons, List.flatMap_cons, this]
      rw [if_neg (by omega)]
      rfl
  have hlen : (lg_sl (as.map (za_v ad))).length = as.length := by rw [hsl, List.length_map]
  obtain ⟨e1, e2, -⟩ := lv_entry (as.map (za_v ad)) (n := n) (by rw [hlen]; exact hn)
  refine ⟨⟨e1, by simp [zlc]; omega⟩, e2, fun i v hi => ?_⟩
  unfold zlc at hi
  rw [List.getElem?_append] at hi
  by_cases hl : i < as.length
  · rw [if_pos (by rw [List.length_map]; exact hl), List.getElem?_map] at hi
    cases ha : as[i]? with
    | none => rw [ha] at hi; cases hi
    | some w =>
      rw [ha] at hi
      have hwv : w = v := by
        have := Option.some.inj hi
        exact Option.some.inj this
      subst hwv
      refine ⟨?_, hc w (List.mem_of_getElem? ha)⟩
      rw [List.getElem?_toArray, List.getElem?_append, if_pos (by rw [hlen]; exact hl), hsl, List.getElem?_map, ha]
      rfl
  · rw [if_neg (by rw [List.length_map]; exact hl), List.getElem?_replicate] at hi
    split at hi
    · cases hi
    · cases hi
/-- a value that the method may return -/
def znr (ret : Option FieldType) (v : Option Value) : Prop := match ret, v with
  | none, none => True
  | some ty, some (.int x) => narrow ty (.int x) = .int x
  | some (.object _), some (.ref _) => True
  | some (.array _), some (.ref _) => True
  | _, _ => False
def zKK (ret : Option FieldType) (ro : Bool) (mc ms : Nat) (K : zO → zH → Prop) : zO → zH → Bool → Nat → Nat → Prop := fun o h wr k q => (match o with
  | .inl v => (ro = true → wr = false) ∧ k ≤ mc ∧ q ≤ ms ∧ znr ret v
  | .inr _ => True) ∧ K o h
/-- a method's contract out of its abstract walk (no handlers) -/
theorem zC_of {l : Launch} {y : MethodName} {ws ws' : List Cond} {rm : Room} {cl : List vw_C} {ro : Bool} {mc ms : Nat} {T : ClassId → ClassId → zT} {cc : ByteArray} {maxL : Nat} {ret : Option FieldType}
    {G : Nat → Option (Nat × Nat × FieldType × Bool)} {E : ClassId → ClassId → Nat → Nat → Option zEn} {X : Nat → Option (Nat × Nat)} {SL : Nat → Bool} {NW : Nat → Option (Nat × Nat × List Value)} {CS : Nat → Option Int32} {ctor : Bool}
    (hl : l.stackTraces = false)
    (hy : plainName y.cls = true) (hw : ws = Cond.code y cc maxL ret :: ws') (hrc : rm.cells = mc) (hrs : rm.slots = ms)
    (hG : ∀ idx ci kf ty fin, G idx = some (ci, kf, ty, fin) → zFok ws cl y.cls ctor idx ci kf ty fin) (hctor : ctor = true → y.name = "<init>")
    (hCS : ∀ i v, CS i = some v → Cond.constant y.cls i v ∈ ws) (hNW : ∀ idx ci n fs, NW idx = some (ci, n, fs) → zNok ws cl y.cls idx ci n fs) (hAC : Cond.arrayClass .int ∈ ws)
    (hX : ∀ i ci ic, X i = some (ci, ic) → zXok ws cl y.cls i ci ic ∧ 6 ≤ rm.frames ∧ 100 ≤ rm.locals) (hSL : ∀ j, SL j = true → zSok y.cls j)
    (hE : ∀ (p : Program) (e : Env) (s : State) (m : MethodId) (args : Array Value) (below : List Frame) (meth : Method) (c : Code) (D : va_G) (A : Nat → Prop) (cI cL : ClassId), p.tables.exec = Jvm.exec → c.code = cc → c.maxLocals = maxL → s.vm.findClass y.cls = some m.cls → (∀ w ∈ ws, w.before args s = true) → va_K D cl [(cI, .int), (cL, .long)] s → (∀ q, s.heap.size ≤ q → A q) → zEX A s →
      ∀ kd idx en, E cI cL kd idx = some en → zRow p l e rm s m args below meth c cc D cl A maxL kd idx en)
    (hbody : ∀ cI cL as h K, T cI cL as h K → (∀ v ∈ as, v.category = 1) ∧ as.length ≤ maxL ∧ ∀ Jd, zCl cc G (E cI cL) X SL NW CS (fun _ _ => none) none cI cL mc ms ctor (zKK ret ro mc ms K) Jd → Jd 0 (zlc maxL as) [] h false 0 0) :
    zC l y ws rm cl ro mc ms T := by
  subst hrc
  subst hrs
  intro D cI cL as h K ad0 sz hT
  obtain ⟨hcat, hlen, hbody⟩ := hbody cI cL as h K hT
  refine zMet.ofW (cc := cc) (maxL := maxL) (ret := ret) hy hw ?_
  intro p e s m args below meth c s₁ B hml hem hv
  obtain ⟨rfl, hsz, hP, hK, hD0, hEX⟩ := hv
  have hx := B.exec
  have hb := B.bytes
  have hr := B.returns
  have hts := atoms_spec (ws := ws) B.pre
  have hown : s.vm.findClass y.cls = some m.cls := findClass_of_methodNamed B.named
  have hlocks := B.notSynchronized
  have hname : meth.name = y.name := (name_of_methodNamed B.named B.method).1
  subst hsz
  have hD := hD0.self (sz := s.heap.size)
  have hA : ∀ q : Nat, s.heap.size ≤ q → va_A (za_w ad0 h) s.heap.size q := fun q h => Or.inr h
  have hlt : ∀ q, va_A (za_w ad0 h) s.heap.size q → True := fun _ _ => trivial
  rw [lg_entry_eq]
  refine hbody (zJ p l e rm s m (as.map (za_v ad0)).toArray below meth c (zMQ below (zQ D cl K ad0 h s.heap.size ro) (as.map (za_v ad0)).toArray s rm.cells rm.slots (fun q => ro = false ∧ va_A (za_w ad0 h) s.heap.size q)) D cl (va_A (za_w ad0 h) s.heap.size) maxL h.length ad0) ?_ ad0 s.heap [] _ ⟨hP, hD, va_S.rf, zl_entry hcat hlen, fun _ => ⟨rfl, rfl⟩, fun _ _ => rfl, Nat.le_refl _, fun _ => rfl⟩
  intro rec hrec pc lc st h' wr k q hw'
  have hfr : ∀ {ad : Nat → Nat} {H : Heap} {locs : List Loc} {ls : Array Slot} {lc : zLc} {h1 : zH} {wr : Bool}, zS s D cl (va_A (za_w ad0 h) s.heap.size) maxL h.length ad0 lc h1 wr ad H locs ls → (ro = true → wr = false) → ∀ q ∈ locs, ro = false ∧ va_A (za_w ad0 h) s.heap.size q.base := by
    intro ad H locs ls lc h1 wr hS hro q hq
    cases ro with
    | true =>
      have := (hS.2.2.2.2.1 (hro rfl)).2
      rw [this] at hq
      cases hq
    | false => exact ⟨rfl, hS.2.2.1.2.2 q hq⟩
  have hqv : ∀ {ad : Nat → Nat} {H : Heap} {locs : List Loc} {ls : Array Slot} {lc : zLc} {h1 : zH} {wr : Bool} {v : Option Value}, zS s D cl (va_A (za_w ad0 h) s.heap.size) maxL h.length ad0 lc h1 wr ad H locs ls → (ro = true → wr = false) → K (.inl v) h1 → ∀ t : State, t.heap = H → zQ D cl K ad0 h s.heap.size ro (as.map (za_v ad0)).toArray s (.returned (v.map (za_v ad))) t := by
    intro ad H locs ls lc h1 wr v hS hro hKv t ht
    refine ⟨⟨ad, .inl v, h1, hKv, hS.2.2.2.2.2.1, hS.2.2.2.2.2.2.2, hS.2.2.2.2.2.2.1, by rw [ht]; exact hS.1, hS.2.1, rfl, fun z => ?_⟩, hS.2.2.1.F ht⟩
    rw [ht]
    exact (hS.2.2.2.2.1 (hro z)).1
  refine zwI_sound (R := rm) (own := y.cls) (Ts := ws) hx hb hown hts hK hA hG (fun z => hname.trans (hctor z)) hCS hNW hAC (hE p e s m _ below meth c D _ cI cL hx hb hml hown hts hK hA hEX) (fun pc ci hp z => by cases z) ?_ ?_ ?_ ?_ (fun L xs z => by cases z) hrec hw'
  · intro i ci ic hXi pc j h1 k q st lc hcs d0 k1 k2 d1 d2 d3 d4 d5 hKK ad H locs ls hS
    obtain ⟨rfl, rfl⟩ := hS.2.2.2.2.1 rfl
    obtain ⟨hX1, hX2, hX3⟩ := hX i ci ic hXi
    have hcs' : ((st.map (za_v ad)).map fun v => v.category).sum ≤ 8 := by
      rw [List.map_map]
      have : (st.map ((fun v => v.category) ∘ za_v ad)) = st.map (fun v => v.category) := List.map_congr_left (fun v _ => za_cat ad v)
      rw [this]; exact hcs
    refine z_throw hX1 (hSL j d3) hx hb hown hts hK hEX hl hem (by rw [hml]; exact hS.2.2.2.1.1.1) hlocks hX2 (by omega) k1 k2 (Nat.le_refl _) (Nat.le_refl _) d0 d1 d2 d4 d5 ?_
    intro a t hat hkeep hge
    exact ⟨⟨ad, .inr ci, h1, hKK.2, hS.2.2.2.2.2.1, hS.2.2.2.2.2.2.2, hS.2.2.2.2.2.2.1, hS.1.kept (fun i x hi => hkeep _ (hS.1 i x hi).lt), hS.2.1, a, rfl, hat⟩, hge, fun z h1 _ => hkeep z h1⟩
  · intro x h1 wr k q pc lc hKK hd ad H locs ls hS
    obtain ⟨⟨g1, g2, g3, g4⟩, g5⟩ := hKK
    cases ret with
    | none => exact g4.elim
    | some ty =>
      refine W.widen g2 g3 (z_iret hx hb hr ?_ (fun t ht _ => hqv hS g1 g5 t ht) (hfr hS g1) hd hlocks)
      cases ty <;> exact g4
  · intro x h1 wr k q pc lc hKK hd ad H locs ls hS
    obtain ⟨⟨g1, g2, g3, g4⟩, g5⟩ := hKK
    cases ret with
    | none => exact g4.elim
    | some ty =>
      refine W.widen g2 g3 (z_aret hx hb hr ?_ (Or.inr ⟨_, rfl⟩) (fun t ht _ => hqv hS g1 g5 t ht) (hfr hS g1) hd hlocks)
      cases ty <;> first | exact g4.elim | exact Or.inl ⟨_, rfl⟩ | exact Or.inr ⟨_, rfl⟩
  · intro h1 wr k q pc lc hKK hd ad H locs ls hS
    obtain ⟨⟨g1, g2, g3, g4⟩, g5⟩ := hKK
    cases ret with
    | some ty => cases ty <;> exact g4.elim
    | none => exact W.widen g2 g3 (z_vret hx hb hr (fun t ht _ => hqv hS g1 g5 t ht) (hfr hS g1) hd hlocks)
end
section
def R_PT : String := "PlaceTests"
def F_PT : u_T := fun k => match k with
  | 0 => ("PlaceTests", "places", "LPlaceTests$Frame;", false)
  | 1 => ("PlaceTests", "opening", "LPlaceTests$Scissors;", true)
  | 2 => ("PlaceTests", "depthTest", "I", false)
  | 3 => ("PlaceTests", "depthWritten", "Z", false)
  | 4 => ("PlaceTests", "front", "LPlaceTests$StencilRule;", true)
  | 5 => ("PlaceTests", "back", "LPlaceTests$StencilRule;", true)
  | 6 => ("PlaceTests", "blending", "LPlaceTests$Blending;", true)
  | 7 => ("PlaceTests", "logicNumber", "I", false)
  | 8 => ("PlaceTests", "colourBits", "I", false)
  | _ => ("PlaceTests", "answers", "[I", true)
def t_PT : Nat → FieldType := fun k => match k with
  | 0 => (.object "PlaceTests$Frame")
  | 1 => (.object "PlaceTests$Scissors")
  | 2 => .int
  | 3 => .boolean
  | 4 => (.object "PlaceTests$StencilRule")
  | 5 => (.object "PlaceTests$StencilRule")
  | 6 => (.object "PlaceTests$Blending")
  | 7 => .int
  | 8 => .int
  | _ => (.array .int)
theorem n_PT : ∀ a, a < 10 → ∀ b, b < 10 → a ≠ b → (F_PT a).2.1 ≠ (F_PT b).2.1 := by decide +kernel
theorem t_PT_ok : ∀ k, k < 10 → parseFieldDescriptor (F_PT k).2.2.1 = some (t_PT k) := by decide +kernel
def R_FR : String := "PlaceTests$Frame"
def F_FR : u_T := fun k => match k with
  | 0 => ("PlaceTests$Frame", "room", "I", true)
  | 1 => ("PlaceTests$Frame", "colours", "[I", true)
  | 2 => ("PlaceTests$Frame", "depths", "[I", true)
  | 3 => ("PlaceTests$Frame", "stencils", "[I", true)
  | 4 => ("PlaceTests$Frame", "x0", "I", false)
  | 5 => ("PlaceTests$Frame", "y0", "I", false)
  | 6 => ("PlaceTests$Frame", "wide", "I", false)
  | 7 => ("PlaceTests$Frame", "high", "I", false)
  | _ => ("PlaceTests$Frame", "count", "I", false)
def t_FR : Nat → FieldType := fun k => match k with
  | 0 => .int
  | 1 => (.array .int)
  | 2 => (.array .int)
  | 3 => (.array .int)
  | 4 => .int
  | 5 => .int
  | 6 => .int
  | 7 => .int
  | _ => .int
theorem n_FR : ∀ a, a < 9 → ∀ b, b < 9 → a ≠ b → (F_FR a).2.1 ≠ (F_FR b).2.1 := by decide +kernel
theorem t_FR_ok : ∀ k, k < 9 → parseFieldDescriptor (F_FR k).2.2.1 = some (t_FR k) := by decide +kernel
def R_SC : String := "PlaceTests$Scissors"
def F_SC : u_T := fun k => match k with
  | 0 => ("PlaceTests$Scissors", "x0", "I", false)
  | 1 => ("PlaceTests$Scissors", "y0", "I", false)
  | 2 => ("PlaceTests$Scissors", "x1", "I", false)
  | _ => ("PlaceTests$Scissors", "y1", "I", false)
def t_SC : Nat → FieldType := fun k => match k with
  | 0 => .int
  | 1 => .int
  | 2 => .int
  | _ => .int
theorem n_SC : ∀ a, a < 4 → ∀ b, b < 4 → a ≠ b → (F_SC a).2.1 ≠ (F_SC b).2.1 := by decide +kernel
theorem t_SC_ok : ∀ k, k < 4 → parseFieldDescriptor (F_SC k).2.2.1 = some (t_SC k) := by decide +kernel
def R_ST : String := "PlaceTests$StencilRule"
def F_ST : u_T := fun k => match k with
  | 0 => ("PlaceTests$StencilRule", "test", "I", false)
  | 1 => ("PlaceTests$StencilRule", "value", "I", false)
  | 2 => ("PlaceTests$StencilRule", "mask", "I", false)
  | 3 => ("PlaceTests$StencilRule", "written", "I", false)
  | 4 => ("PlaceTests$StencilRule", "fails", "I", false)
  | 5 => ("PlaceTests$StencilRule", "depthFails", "I", false)
  | _ => ("PlaceTests$StencilRule", "holds", "I", false)
def t_ST : Nat → FieldType := fun k => match k with
  | 0 => .int
  | 1 => .int
  | 2 => .int
  | 3 => .int
  | 4 => .int
  | 5 => .int
  | _ => .int
theorem n_ST : ∀ a, a < 7 → ∀ b, b < 7 → a ≠ b → (F_ST a).2.1 ≠ (F_ST b).2.1 := by decide +kernel
theorem t_ST_ok : ∀ k, k < 7 → parseFieldDescriptor (F_ST k).2.2.1 = some (t_ST k) := by decide +kernel
def R_BL : String := "PlaceTests$Blending"
def F_BL : u_T := fun k => match k with
  | 0 => ("PlaceTests$Blending", "source", "I", false)
  | 1 => ("PlaceTests$Blending", "place", "I", false)
  | 2 => ("PlaceTests$Blending", "sourceA", "I", false)
  | 3 => ("PlaceTests$Blending", "placeA", "I", false)
  | 4 => ("PlaceTests$Blending", "equation", "I", false)
  | 5 => ("PlaceTests$Blending", "equationA", "I", false)
  | _ => ("PlaceTests$Blending", "constant", "I", false)
def t_BL : Nat → FieldType := fun k => match k with
  | 0 => .int
  | 1 => .int
  | 2 => .int
  | 3 => .int
  | 4 => .int
  | 5 => .int
  | _ => .int
theorem n_BL : ∀ a, a < 7 → ∀ b, b < 7 → a ≠ b → (F_BL a).2.1 ≠ (F_BL b).2.1 := by decide +kernel
theorem t_BL_ok : ∀ k, k < 7 → parseFieldDescriptor (F_BL k).2.2.1 = some (t_BL k) := by decide +kernel
def R_MO : String := "PlaceTestsModel"
def F_MO : u_T := fun k => match k with
  | 0 => ("PlaceTestsModel", "thrown", "I", false)
  | 1 => ("PlaceTestsModel", "x0", "I", false)
  | 2 => ("PlaceTestsModel", "y0", "I", false)
  | 3 => ("PlaceTestsModel", "wide", "I", false)
  | 4 => ("PlaceTestsModel", "high", "I", false)
  | 5 => ("PlaceTestsModel", "channels", "[I", true)
  | 6 => ("PlaceTestsModel", "depths", "[I", true)
  | 7 => ("PlaceTestsModel", "stencils", "[I", true)
  | 8 => ("PlaceTestsModel", "scissored", "Z", false)
  | 9 => ("PlaceTestsModel", "scissor", "[I", true)
  | 10 => ("PlaceTestsModel", "depthTest", "I", false)
  | 11 => ("PlaceTestsModel", "depthWritten", "Z", false)
  | 12 => ("PlaceTestsModel", "stencil", "[I", true)
  | 13 => ("PlaceTestsModel", "factors", "[I", true)
  | 14 => ("PlaceTestsModel", "equation", "I", false)
  | 15 => ("PlaceTestsModel", "equationA", "I", false)
  | 16 => ("PlaceTestsModel", "constant", "[I", true)
  | 17 => ("PlaceTestsModel", "logic", "I", false)
  | 18 => ("PlaceTestsModel", "mask", "I", false)
  | 19 => ("PlaceTestsModel", "answers", "[I", true)
  | 20 => ("PlaceTestsModel", "s", "[I", true)
  | _ => ("PlaceTestsModel", "d", "[I", true)
def t_MO : Nat → FieldType := fun k => match k with
  | 0 => .int
  | 1 => .int
  | 2 => .int
  | 3 => .int
  | 4 => .int
  | 5 => (.array .int)
  | 6 => (.array .int)
  | 7 => (.array .int)
  | 8 => .boolean
  | 9 => (.array .int)
  | 10 => .int
  | 11 => .boolean
  | 12 => (.array .int)
  | 13 => (.array .int)
  | 14 => .int
  | 15 => .int
  | 16 => (.array .int)
  | 17 => .int
  | 18 => .int
  | 19 => (.array .int)
  | 20 => (.array .int)
  | _ => (.array .int)
theorem n_MO : ∀ a, a < 22 → ∀ b, b < 22 → a ≠ b → (F_MO a).2.1 ≠ (F_MO b).2.1 := by decide +kernel
theorem t_MO_ok : ∀ k, k < 22 → parseFieldDescriptor (F_MO k).2.2.1 = some (t_MO k) := by decide +kernel
def F_no : u_T := fun _ => ("", "", "", false)
def R_CO : String := "PlaceTests$Colour"
def R_LA : String := "PlaceTestsLaw"
def zcl : List vw_C := [("PlaceTests", F_PT, 10), ("PlaceTests$Frame", F_FR, 9), ("PlaceTests$Scissors", F_SC, 4), ("PlaceTests$StencilRule", F_ST, 7), ("PlaceTests$Blending", F_BL, 7), ("PlaceTestsModel", F_MO, 22), ("java/lang/IllegalArgumentException", F_no, 0), ("java/lang/IndexOutOfBoundsException", F_no, 0)]
def wsG : List Cond := lw_tbl.filter zgood
theorem wg {w : Cond} (i : Nat) (h : lw_tbl[i]? = some w) (hg : zgood w = true) : w ∈ wsG := List.mem_filter.mpr ⟨List.mem_of_getElem? h, hg⟩
theorem wsG_good : ∀ w ∈ wsG, zgood w = true := fun w h => (List.mem_filter.mp h).2
theorem wsG_all {L : List Cond} (h : L.all (fun w => decide (w ∈ lw_tbl) && zgood w) = true) : ∀ w ∈ L, w ∈ wsG := by
  intro w hw
  have := List.all_eq_true.mp h w hw
  rw [Bool.and_eq_true, decide_eq_true_eq] at this
  exact List.mem_filter.mpr this
theorem u_PT_in : ∀ w ∈ u_ws "PlaceTests" F_PT 10, w ∈ wsG := wsG_all (by decide +kernel)
theorem u_FR_in : ∀ w ∈ u_ws "PlaceTests$Frame" F_FR 9, w ∈ wsG := wsG_all (by decide +kernel)
theorem u_SC_in : ∀ w ∈ u_ws "PlaceTests$Scissors" F_SC 4, w ∈ wsG := wsG_all (by decide +kernel)
theorem u_ST_in : ∀ w ∈ u_ws "PlaceTests$StencilRule" F_ST 7, w ∈ wsG := wsG_all (by decide +kernel)
theorem u_BL_in : ∀ w ∈ u_ws "PlaceTests$Blending" F_BL 7, w ∈ wsG := wsG_all (by decide +kernel)
theorem u_MO_in : ∀ w ∈ u_ws "PlaceTestsModel" F_MO 22, w ∈ wsG := wsG_all (by decide +kernel)
end
section
def y_PT_init : MethodName := ⟨"PlaceTests", "<init>", "()V"⟩
theorem D_PT_init : (decode prog_1_method_1_code 0 = .ok (.aload_n 0, 1)) ∧ (decode prog_1_method_1_code 1 = .ok (.invokespecial 1, 3)) ∧ (decode prog_1_method_1_code 4 = .ok (.aload_n 0, 1)) ∧ (decode prog_1_method_1_code 5 = .ok (.new 7, 3)) ∧ (decode prog_1_method_1_code 8 = .ok (.dup, 1)) ∧ (decode prog_1_method_1_code 9 = .ok (.iconst 1, 1)) ∧ (decode prog_1_method_1_code 10 = .ok (.invokespecial 9, 3)) ∧ (decode prog_1_method_1_code 13 = .ok (.putfield 12, 3)) ∧ (decode prog_1_method_1_code 16 = .ok (.aload_n 0, 1)) ∧ (decode prog_1_method_1_code 17 = .ok (.new 18, 3)) ∧ (decode prog_1_method_1_code 20 = .ok (.dup, 1)) ∧ (decode prog_1_method_1_code 21 = .ok (.invokespecial 20, 3)) ∧ (decode prog_1_method_1_code 24 = .ok (.putfield 21, 3)) ∧ (decode prog_1_method_1_code 27 = .ok (.aload_n 0, 1)) ∧ (decode prog_1_method_1_code 28 = .ok (.iconst (-1), 1)) ∧ (decode prog_1_method_1_code 29 = .ok (.putfield 25, 3)) ∧ (decode prog_1_method_1_code 32 = .ok (.aload_n 0, 1)) ∧ (decode prog_1_method_1_code 33 = .ok (.iconst 0, 1)) ∧ (decode prog_1_method_1_code 34 = .ok (.putfield 29, 3)) ∧ (decode prog_1_method_1_code 37 = .ok (.aload_n 0, 1)) ∧ (decode prog_1_method_1_code 38 = .ok (.new 33, 3)) ∧ (decode prog_1_method_1_code 41 = .ok (.dup, 1)) ∧ (decode prog_1_method_1_code 42 = .ok (.invokespecial 35, 3)) ∧ (decode prog_1_method_1_code 45 = .ok (.putfield 36, 3)) ∧ (decode prog_1_method_1_code 48 = .ok (.aload_n 0, 1)) ∧ (decode prog_1_method_1_code 49 = .ok (.new 33, 3)) ∧ (decode prog_1_method_1_code 52 = .ok (.dup, 1)) ∧ (decode prog_1_method_1_code 53 = .ok (.invokespecial 35, 3)) ∧ (decode prog_1_method_1_code 56 = .ok (.putfield 40, 3)) ∧ (decode prog_1_method_1_code 59 = .ok (.aload_n 0, 1)) ∧ (decode prog_1_method_1_code 60 = .ok (.new 43, 3)) ∧ (decode prog_1_method_1_code 63 = .ok (.dup, 1)) ∧ (decode prog_1_method_1_code 64 = .ok (.invokespecial 45, 3)) ∧ (decode prog_1_method_1_code 67 = .ok (.putfield 46, 3)) ∧ (decode prog_1_method_1_code 70 = .ok (.aload_n 0, 1)) ∧ (decode prog_1_method_1_code 71 = .ok (.iconst (-1), 1)) ∧ (decode prog_1_method_1_code 72 = .ok (.putfield 50, 3)) ∧ (decode prog_1_method_1_code 75 = .ok (.aload_n 0, 1)) ∧ (decode prog_1_method_1_code 76 = .ok (.iconst (-1), 1)) ∧ (decode prog_1_method_1_code 77 = .ok (.putfield 53, 3)) ∧ (decode prog_1_method_1_code 80 = .ok (.aload_n 0, 1)) ∧ (decode prog_1_method_1_code 81 = .ok (.iconst 4, 1)) ∧ (decode prog_1_method_1_code 82 = .ok (.newarray .int, 2)) ∧ (decode prog_1_method_1_code 84 = .ok (.putfield 56, 3)) ∧ (decode prog_1_method_1_code 87 = .ok (.return_, 1)) :=
  ⟨by decide +kernel, by decide +kernel, by decide +kernel, by decide +kernel, by decide +kernel, by decide +kernel, by decide +kernel, by decide +kernel, by decide +kernel, by decide +kernel, by decide +kernel, by decide +kernel, by decide +kernel, by decide +kernel, by decide +kernel, by decide +kernel, by decide +kernel, by decide +kernel, by decide +kernel, by decide +kernel, by decide +kernel, by decide +kernel, by decide +kernel, by decide +kernel, by decide +kernel, by decide +kernel, by decide +kernel, by decide +kernel, by decide +kernel, by decide +kernel, by decide +kernel, by decide +kernel, by decide +kernel, by decide +kernel, by decide +kernel, by decide +kernel, by decide +kernel, by decide +kernel, by decide +kernel, by decide +kernel, by decide +kernel, by decide +kernel, by decide +kernel, by decide +kernel, by decide +kernel⟩
def y_PT_scissors : MethodName := ⟨"PlaceTests", "scissors", "(IIII)V"⟩
theorem D_PT_scissors : (decode prog_1_method_3_code 0 = .ok (.aload_n 0, 1)) ∧ (decode prog_1_method_3_code 1 = .ok (.getfield 21, 3)) ∧ (decode prog_1_method_3_code 4 = .ok (.iload_n 1, 1)) ∧ (decode prog_1_method_3_code 5 = .ok (.putfield 80, 3)) ∧ (decode prog_1_method_3_code 8 = .ok (.aload_n 0, 1)) ∧ (decode prog_1_method_3_code 9 = .ok (.getfield 21, 3)) ∧ (decode prog_1_method_3_code 12 = .ok (.iload_n 2, 1)) ∧ (decode prog_1_method_3_code 13 = .ok (.putfield 83, 3)) ∧ (decode prog_1_method_3_code 16 = .ok (.aload_n 0, 1)) ∧ (decode prog_1_method_3_code 17 = .ok (.getfield 21, 3)) ∧ (decode prog_1_method_3_code 20 = .ok (.iload_n 3, 1)) ∧ (decode prog_1_method_3_code 21 = .ok (.putfield 86, 3)) ∧ (decode prog_1_method_3_code 24 = .ok (.aload_n 0, 1)) ∧ (decode prog_1_method_3_code 25 = .ok (.getfield 21, 3)) ∧ (decode prog_1_method_3_code 28 = .ok (.iload 4, 2)) ∧ (decode prog_1_method_3_code 30 = .ok (.putfield 89, 3)) ∧ (decode prog_1_method_3_code 33 = .ok (.return_, 1)) :=
  ⟨by decide +kernel, by decide +kernel, by decide +kernel, by decide +kernel, by decide +kernel, by decide +kernel, by decide +kernel, by decide +kernel, by decide +kernel, by decide +kernel, by decide +kernel, by decide +kernel, by decide +kernel, by decide +kernel, by decide +kernel, by decide +kernel, by decide +kernel⟩
def y_PT_constant : MethodName := ⟨"PlaceTests", "constant", "(I)V"⟩
theorem D_PT_constant : (decode prog_1_method_7_code 0 = .ok (.aload_n 0, 1)) ∧ (decode prog_1_method_7_code 1 = .ok (.getfield 46, 3)) ∧ (decode prog_1_method_7_code 4 = .ok (.iload_n 1, 1)) ∧ (decode prog_1_method_7_code 5 = .ok (.putfield 160, 3)) ∧ (decode prog_1_method_7_code 8 = .ok (.return_, 1)) :=
  ⟨by decide +kernel, by decide +kernel, by decide +kernel, by decide +kernel, by decide +kernel⟩
def y_PT_frame : MethodName := ⟨"PlaceTests", "frame", "(IIII)V"⟩
theorem D_PT_frame : (decode prog_1_method_2_code 0 = .ok (.iload_n 3, 1)) ∧ (decode prog_1_method_2_code 1 = .ok (.iconst 1, 1)) ∧ (decode prog_1_method_2_code 2 = .ok (.bipush 64, 2)) ∧ (decode prog_1_method_2_code 4 = .ok (.invokestatic 60, 3)) ∧ (decode prog_1_method_2_code 7 = .ok (.ifCond .eq 14, 3)) ∧ (decode prog_1_method_2_code 10 = .ok (.iload 4, 2)) ∧ (decode prog_1_method_2_code 12 = .ok (.iconst 1, 1)) ∧ (decode prog_1_method_2_code 13 = .ok (.bipush 64, 2)) ∧ (decode prog_1_method_2_code 15 = .ok (.invokestatic 60, 3)) ∧ (decode prog_1_method_2_code 18 = .ok (.ifCond .ne 13, 3)) ∧ (decode prog_1_method_2_code 21 = .ok (.new 64, 3)) ∧ (decode prog_1_method_2_code 24 = .ok (.dup, 1)) ∧ (decode prog_1_method_2_code 25 = .ok (.ldc 66, 2)) ∧ (decode prog_1_method_2_code 27 = .ok (.invokespecial 68, 3)) ∧ (decode prog_1_method_2_code 30 = .ok (.athrow, 1)) ∧ (decode prog_1_method_2_code 31 = .ok (.iload_n 1, 1)) ∧ (decode prog_1_method_2_code 32 = .ok (.iconst 0, 1)) ∧ (decode prog_1_method_2_code 33 = .ok (.sipush 1023, 3)) ∧ (decode prog_1_method_2_code 36 = .ok (.invokestatic 60, 3)) ∧ (decode prog_1_method_2_code 39 = .ok (.ifCond .eq 14, 3)) ∧ (decode prog_1_method_2_code 42 = .ok (.iload_n 2, 1)) ∧ (decode prog_1_method_2_code 43 = .ok (.iconst 0, 1)) ∧ (decode prog_1_method_2_code 44 = .ok (.sipush 1023, 3)) ∧ (decode prog_1_method_2_code 47 = .ok (.invokestatic 60, 3)) ∧ (decode prog_1_method_2_code 50 = .ok (.ifCond .ne 13, 3)) ∧ (decode prog_1_method_2_code 53 = .ok (.new 64, 3)) ∧ (decode prog_1_method_2_code 56 = .ok (.dup, 1)) ∧ (decode prog_1_method_2_code 57 = .ok (.ldc 71, 2)) ∧ (decode prog_1_method_2_code 59 = .ok (.invokespecial 68, 3)) ∧ (decode prog_1_method_2_code 62 = .ok (.athrow, 1)) ∧ (decode prog_1_method_2_code 63 = .ok (.iload_n 3, 1)) ∧ (decode prog_1_method_2_code 64 = .ok (.iload 4, 2)) ∧ (decode prog_1_method_2_code 66 = .ok (.imul, 1)) ∧ (decode prog_1_method_2_code 67 = .ok (.aload_n 0, 1)) ∧ (decode prog_1_method_2_code 68 = .ok (.getfield 12, 3)) ∧ (decode prog_1_method_2_code 71 = .ok (.getfield 73, 3)) ∧ (decode prog_1_method_2_code 74 = .ok (.if_icmp .le 17, 3)) ∧ (decode prog_1_method_2_code 77 = .ok (.aload_n 0, 1)) ∧ (decode prog_1_method_2_code 78 = .ok (.new 7, 3)) ∧ (decode prog_1_method_2_code 81 = .ok (.dup, 1)) ∧ (decode prog_1_method_2_code 82 = .ok (.sipush 4096, 3)) ∧ (decode prog_1_method_2_code 85 = .ok (.invokespecial 9, 3)) ∧ (decode prog_1_method_2_code 88 = .ok (.putfield 12, 3)) ∧ (decode prog_1_method_2_code 91 = .ok (.aload_n 0, 1)) ∧ (decode prog_1_method_2_code 92 = .ok (.getfield 12, 3)) ∧ (decode prog_1_method_2_code 95 = .ok (.iload_n 1, 1)) ∧ (decode prog_1_method_2_code 96 = .ok (.iload_n 2, 1)) ∧ (decode prog_1_method_2_code 97 = .ok (.iload_n 3, 1)) ∧ (decode prog_1_method_2_code 98 = .ok (.iload 4, 2)) ∧ (decode prog_1_method_2_code 100 = .ok (.invokevirtual 76, 3)) ∧ (decode prog_1_method_2_code 103 = .ok (.return_, 1)) :=
  ⟨by decide +kernel, by decide +kernel, by decide +kernel, by decide +kernel, by decide +kernel, by decide +kernel, by decide +kernel, by decide +kernel, by decide +kernel, by decide +kernel, by decide +kernel, by decide +kernel, by decide +kernel, by decide +kernel, by decide +kernel, by decide +kernel, by decide +kernel, by decide +kernel, by decide +kernel, by decide +kernel, by decide +kernel, by decide +kernel, by decide +kernel, by decide +kernel, by decide +kernel, by decide +kernel, by decide +kernel, by decide +kernel, by decide +kernel, by decide +kernel, by decide +kernel, by decide +kernel, by decide +kernel, by decide +kernel, by decide +kernel, by decide +kernel, by decide +kernel, by decide +kernel, by decide +kernel, by decide +kernel, by decide +kernel, by decide +kernel, by decide +kernel, by decide +kernel, by decide +kernel, by decide +kernel, by decide +kernel, by decide +kernel, by decide +kernel, by decide +kernel, by decide +kernel⟩
def y_PT_isWithin : MethodName := ⟨"PlaceTests", "isWithin", "(III)Z"⟩
theorem D_PT_isWithin : (decode prog_1_method_19_code 0 = .ok (.iload_n 0, 1)) ∧ (decode prog_1_method_19_code 1 = .ok (.iload_n 1, 1)) ∧ (decode prog_1_method_19_code 2 = .ok (.if_icmp .lt 12, 3)) ∧ (decode prog_1_method_19_code 5 = .ok (.iload_n 0, 1)) ∧ (decode prog_1_method_19_code 6 = .ok (.iload_n 2, 1)) ∧ (decode prog_1_method_19_code 7 = .ok (.if_icmp .gt 7, 3)) ∧ (decode prog_1_method_19_code 10 = .ok (.iconst 1, 1)) ∧ (decode prog_1_method_19_code 11 = .ok (.goto 4, 3)) ∧ (decode prog_1_method_19_code 14 = .ok (.iconst 0, 1)) ∧ (decode prog_1_method_19_code 15 = .ok (.ireturn, 1)) :=
  ⟨by decide +kernel, by decide +kernel, by decide +kernel, by decide +kernel, by decide +kernel, by decide +kernel, by decide +kernel, by decide +kernel, by decide +kernel, by decide +kernel⟩
def y_PT_depth : MethodName := ⟨"PlaceTests", "depth", "(IZ)V"⟩
theorem D_PT_depth : (decode prog_1_method_4_code 0 = .ok (.iload_n 1, 1)) ∧ (decode prog_1_method_4_code 1 = .ok (.iconst (-1), 1)) ∧ (decode prog_1_method_4_code 2 = .ok (.bipush 7, 2)) ∧ (decode prog_1_method_4_code 4 = .ok (.invokestatic 60, 3)) ∧ (decode prog_1_method_4_code 7 = .ok (.ifCond .ne 13, 3)) ∧ (decode prog_1_method_4_code 10 = .ok (.new 64, 3)) ∧ (decode prog_1_method_4_code 13 = .ok (.dup, 1)) ∧ (decode prog_1_method_4_code 14 = .ok (.ldc 92, 2)) ∧ (decode prog_1_method_4_code 16 = .ok (.invokespecial 68, 3)) ∧ (decode prog_1_method_4_code 19 = .ok (.athrow, 1)) ∧ (decode prog_1_method_4_code 20 = .ok (.aload_n 0, 1)) ∧ (decode prog_1_method_4_code 21 = .ok (.iload_n 1, 1)) ∧ (decode prog_1_method_4_code 22 = .ok (.putfield 25, 3)) ∧ (decode prog_1_method_4_code 25 = .ok (.aload_n 0, 1)) ∧ (decode prog_1_method_4_code 26 = .ok (.iload_n 2, 1)) ∧ (decode prog_1_method_4_code 27 = .ok (.putfield 29, 3)) ∧ (decode prog_1_method_4_code 30 = .ok (.return_, 1)) :=
  ⟨by decide +kernel, by decide +kernel, by decide +kernel, by decide +kernel, by decide +kernel, by decide +kernel, by decide +kernel, by decide +kernel, by decide +kernel, by decide +kernel, by decide +kernel, by decide +kernel, by decide +kernel, by decide +kernel, by decide +kernel, by decide +kernel, by decide +kernel⟩
def y_PT_stencil : MethodName := ⟨"PlaceTests", "stencil", "(IIIIIIII)V"⟩
theorem D_PT_stencil_0 : (decode prog_1_method_5_code 0 = .ok (.iload_n 1, 1)) ∧ (decode prog_1_method_5_code 1 = .ok (.invokestatic 94, 3)) ∧ (decode prog_1_method_5_code 4 = .ok (.ifCond .ne 13, 3)) ∧ (decode prog_1_method_5_code 7 = .ok (.new 64, 3)) ∧ (decode prog_1_method_5_code 10 = .ok (.dup, 1)) ∧ (decode prog_1_method_5_code 11 = .ok (.ldc 98, 2)) ∧ (decode prog_1_method_5_code 13 = .ok (.invokespecial 68, 3)) ∧ (decode prog_1_method_5_code 16 = .ok (.athrow, 1)) ∧ (decode prog_1_method_5_code 17 = .ok (.aload_n 0, 1)) ∧ (decode prog_1_method_5_code 18 = .ok (.iload_n 1, 1)) ∧ (decode prog_1_method_5_code 19 = .ok (.invokevirtual 100, 3)) ∧ (decode prog_1_method_5_code 22 = .ok (.astore 9, 2)) ∧ (decode prog_1_method_5_code 24 = .ok (.iload_n 2, 1)) ∧ (decode prog_1_method_5_code 25 = .ok (.iconst (-1), 1)) ∧ (decode prog_1_method_5_code 26 = .ok (.if_icmp .ne 10, 3)) ∧ (decode prog_1_method_5_code 29 = .ok (.aload 9, 2)) ∧ (decode prog_1_method_5_code 31 = .ok (.iconst (-1), 1)) ∧ (decode prog_1_method_5_code 32 = .ok (.putfield 104, 3)) ∧ (decode prog_1_method_5_code 35 = .ok (.return_, 1)) ∧ (decode prog_1_method_5_code 36 = .ok (.iload_n 2, 1)) ∧ (decode prog_1_method_5_code 37 = .ok (.iconst 0, 1)) ∧ (decode prog_1_method_5_code 38 = .ok (.bipush 7, 2)) ∧ (decode prog_1_method_5_code 40 = .ok (.invokestatic 60, 3)) ∧ (decode prog_1_method_5_code 43 = .ok (.ifCond .ne 13, 3)) ∧ (decode prog_1_method_5_code 46 = .ok (.new 64, 3)) ∧ (decode prog_1_method_5_code 49 = .ok (.dup, 1)) ∧ (decode prog_1_method_5_code 50 = .ok (.ldc 92, 2)) ∧ (decode prog_1_method_5_code 52 = .ok (.invokespecial 68, 3)) ∧ (decode prog_1_method_5_code 55 = .ok (.athrow, 1)) ∧ (decode prog_1_method_5_code 56 = .ok (.iload_n 3, 1)) ∧ (decode prog_1_method_5_code 57 = .ok (.invokestatic 107, 3)) ∧ (decode prog_1_method_5_code 60 = .ok (.ifCond .eq 19, 3)) ∧ (decode prog_1_method_5_code 63 = .ok (.iload 4, 2)) ∧ (decode prog_1_method_5_code 65 = .ok (.invokestatic 107, 3)) ∧ (decode prog_1_method_5_code 68 = .ok (.ifCond .eq 11, 3)) ∧ (decode prog_1_method_5_code 71 = .ok (.iload 5, 2)) ∧ (decode prog_1_method_5_code 73 = .ok (.invokestatic 107, 3)) ∧ (decode prog_1_method_5_code 76 = .ok (.ifCond .ne 13, 3)) ∧ (decode prog_1_method_5_code 79 = .ok (.new 64, 3)) ∧ (decode prog_1_method_5_code 82 = .ok (.dup, 1)) ∧ (decode prog_1_method_5_code 83 = .ok (.ldc 110, 2)) ∧ (decode prog_1_method_5_code 85 = .ok (.invokespecial 68, 3)) ∧ (decode prog_1_method_5_code 88 = .ok (.athrow, 1)) ∧ (decode prog_1_method_5_code 89 = .ok (.iload 6, 2)) ∧ (decode prog_1_method_5_code 91 = .ok (.invokestatic 112, 3)) ∧ (decode prog_1_method_5_code 94 = .ok (.ifCond .eq 19, 3)) ∧ (decode prog_1_method_5_code 97 = .ok (.iload 7, 2)) ∧ (decode prog_1_method_5_code 99 = .ok (.invokestatic 112, 3)) ∧ (decode prog_1_method_5_code 102 = .ok (.ifCond .eq 11, 3)) ∧ (decode prog_1_method_5_code 105 = .ok (.iload 8, 2)) ∧ (decode prog_1_method_5_code 107 = .ok (.invokestatic 112, 3)) ∧ (decode prog_1_method_5_code 110 = .ok (.ifCond .ne 13, 3)) ∧ (decode prog_1_method_5_code 113 = .ok (.new 64, 3)) ∧ (decode prog_1_method_5_code 116 = .ok (.dup, 1)) ∧ (decode prog_1_method_5_code 117 = .ok (.ldc 115, 2)) ∧ (decode prog_1_method_5_code 119 = .ok (.invokespecial 68, 3)) ∧ (decode prog_1_method_5_code 122 = .ok (.athrow, 1)) ∧ (decode prog_1_method_5_code 123 = .ok (.aload 9, 2)) ∧ (decode prog_1_method_5_code 125 = .ok (.iload_n 2, 1)) ∧ (decode prog_1_method_5_code 126 = .ok (.putfield 104, 3)) :=
  ⟨by decide +kernel, by decide +kernel, by decide +kernel, by decide +kernel, by decide +kernel, by decide +kernel, by decide +kernel, by decide +kernel, by decide +kernel, by decide +kernel, by decide +kernel, by decide +kernel, by decide +kernel, by decide +kernel, by decide +kernel, by decide +kernel, by decide +kernel, by decide +kernel, by decide +kernel, by decide +kernel, by decide +kernel, by decide +kernel, by decide +kernel, by decide +kernel, by decide +kernel, by decide +kernel, by decide +kernel, by decide +kernel, by decide +kernel, by decide +kernel, by decide +kernel, by decide +kernel, by decide +kernel, by decide +kernel, by decide +kernel, by decide +kernel, by decide +kernel, by decide +kernel, by decide +kernel, by decide +kernel, by decide +kernel, by decide +kernel, by decide +kernel, by decide +kernel, by decide +kernel, by decide +kernel, by decide +kernel, by decide +kernel, by decide +kernel, by decide +kernel, by decide +kernel, by decide +kernel, by decide +kernel, by decide +kernel, by decide +kernel, by decide +kernel, by decide +kernel, by decide +kernel, by decide +kernel, by decide +kernel⟩
theorem D_PT_stencil_1 : (decode prog_1_method_5_code 129 = .ok (.aload 9, 2)) ∧ (decode prog_1_method_5_code 131 = .ok (.iload_n 3, 1)) ∧ (decode prog_1_method_5_code 132 = .ok (.putfield 117, 3)) ∧ (decode prog_1_method_5_code 135 = .ok (.aload 9, 2)) ∧ (decode prog_1_method_5_code 137 = .ok (.iload 4, 2)) ∧ (decode prog_1_method_5_code 139 = .ok (.putfield 120, 3)) ∧ (decode prog_1_method_5_code 142 = .ok (.aload 9, 2)) ∧ (decode prog_1_method_5_code 144 = .ok (.iload 5, 2)) ∧ (decode prog_1_method_5_code 146 = .ok (.putfield 123, 3)) ∧ (decode prog_1_method_5_code 149 = .ok (.aload 9, 2)) ∧ (decode prog_1_method_5_code 151 = .ok (.iload 6, 2)) ∧ (decode prog_1_method_5_code 153 = .ok (.putfield 126, 3)) ∧ (decode prog_1_method_5_code 156 = .ok (.aload 9, 2)) ∧ (decode prog_1_method_5_code 158 = .ok (.iload 7, 2)) ∧ (decode prog_1_method_5_code 160 = .ok (.putfield 129, 3)) ∧ (decode prog_1_method_5_code 163 = .ok (.aload 9, 2)) ∧ (decode prog_1_method_5_code 165 = .ok (.iload 8, 2)) ∧ (decode prog_1_method_5_code 167 = .ok (.putfield 132, 3)) ∧ (decode prog_1_method_5_code 170 = .ok (.return_, 1)) :=
  ⟨by decide +kernel, by decide +kernel, by decide +kernel, by decide +kernel, by decide +kernel, by decide +kernel, by decide +kernel, by decide +kernel, by decide +kernel, by decide +kernel, by decide +kernel, by decide +kernel, by decide +kernel, by decide +kernel, by decide +kernel, by decide +kernel, by decide +kernel, by decide +kernel, by decide +kernel⟩
def y_PT_isSide : MethodName := ⟨"PlaceTests", "isSide", "(I)Z"⟩
theorem D_PT_isSide : (decode prog_1_method_22_code 0 = .ok (.iload_n 0, 1)) ∧ (decode prog_1_method_22_code 1 = .ok (.iconst 0, 1)) ∧ (decode prog_1_method_22_code 2 = .ok (.iconst 1, 1)) ∧ (decode prog_1_method_22_code 3 = .ok (.invokestatic 60, 3)) ∧ (decode prog_1_method_22_code 6 = .ok (.ireturn, 1)) :=
  ⟨by decide +kernel, by decide +kernel, by decide +kernel, by decide +kernel, by decide +kernel⟩
def y_PT_ruleOf : MethodName := ⟨"PlaceTests", "ruleOf", "(I)LPlaceTests$StencilRule;"⟩
theorem D_PT_ruleOf : (decode prog_1_method_18_code 0 = .ok (.iload_n 1, 1)) ∧ (decode prog_1_method_18_code 1 = .ok (.ifCond .ne 10, 3)) ∧ (decode prog_1_method_18_code 4 = .ok (.aload_n 0, 1)) ∧ (decode prog_1_method_18_code 5 = .ok (.getfield 36, 3)) ∧ (decode prog_1_method_18_code 8 = .ok (.goto 7, 3)) ∧ (decode prog_1_method_18_code 11 = .ok (.aload_n 0, 1)) ∧ (decode prog_1_method_18_code 12 = .ok (.getfield 40, 3)) ∧ (decode prog_1_method_18_code 15 = .ok (.areturn, 1)) :=
  ⟨by decide +kernel, by decide +kernel, by decide +kernel, by decide +kernel, by decide +kernel, by decide +kernel, by decide +kernel, by decide +kernel⟩
def y_PT_isByte : MethodName := ⟨"PlaceTests", "isByte", "(I)Z"⟩
theorem D_PT_isByte : (decode prog_1_method_20_code 0 = .ok (.iload_n 0, 1)) ∧ (decode prog_1_method_20_code 1 = .ok (.iconst 0, 1)) ∧ (decode prog_1_method_20_code 2 = .ok (.sipush 255, 3)) ∧ (decode prog_1_method_20_code 5 = .ok (.invokestatic 60, 3)) ∧ (decode prog_1_method_20_code 8 = .ok (.ireturn, 1)) :=
  ⟨by decide +kernel, by decide +kernel, by decide +kernel, by decide +kernel, by decide +kernel⟩
def y_PT_isDeed : MethodName := ⟨"PlaceTests", "isDeed", "(I)Z"⟩
theorem D_PT_isDeed : (decode prog_1_method_23_code 0 = .ok (.iload_n 0, 1)) ∧ (decode prog_1_method_23_code 1 = .ok (.iconst 0, 1)) ∧ (decode prog_1_method_23_code 2 = .ok (.bipush 7, 2)) ∧ (decode prog_1_method_23_code 4 = .ok (.invokestatic 60, 3)) ∧ (decode prog_1_method_23_code 7 = .ok (.ireturn, 1)) :=
  ⟨by decide +kernel, by decide +kernel, by decide +kernel, by decide +kernel, by decide +kernel⟩
def y_PT_blend : MethodName := ⟨"PlaceTests", "blend", "(IIIIII)V"⟩
theorem D_PT_blend_0 : (decode prog_1_method_6_code 0 = .ok (.iload 5, 2)) ∧ (decode prog_1_method_6_code 2 = .ok (.iconst (-1), 1)) ∧ (decode prog_1_method_6_code 3 = .ok (.if_icmp .ne 12, 3)) ∧ (decode prog_1_method_6_code 6 = .ok (.aload_n 0, 1)) ∧ (decode prog_1_method_6_code 7 = .ok (.getfield 46, 3)) ∧ (decode prog_1_method_6_code 10 = .ok (.iconst (-1), 1)) ∧ (decode prog_1_method_6_code 11 = .ok (.putfield 135, 3)) ∧ (decode prog_1_method_6_code 14 = .ok (.return_, 1)) ∧ (decode prog_1_method_6_code 15 = .ok (.iload_n 1, 1)) ∧ (decode prog_1_method_6_code 16 = .ok (.invokestatic 138, 3)) ∧ (decode prog_1_method_6_code 19 = .ok (.ifCond .eq 25, 3)) ∧ (decode prog_1_method_6_code 22 = .ok (.iload_n 2, 1)) ∧ (decode prog_1_method_6_code 23 = .ok (.invokestatic 138, 3)) ∧ (decode prog_1_method_6_code 26 = .ok (.ifCond .eq 18, 3)) ∧ (decode prog_1_method_6_code 29 = .ok (.iload_n 3, 1)) ∧ (decode prog_1_method_6_code 30 = .ok (.invokestatic 138, 3)) ∧ (decode prog_1_method_6_code 33 = .ok (.ifCond .eq 11, 3)) ∧ (decode prog_1_method_6_code 36 = .ok (.iload 4, 2)) ∧ (decode prog_1_method_6_code 38 = .ok (.invokestatic 138, 3)) ∧ (decode prog_1_method_6_code 41 = .ok (.ifCond .ne 13, 3)) ∧ (decode prog_1_method_6_code 44 = .ok (.new 64, 3)) ∧ (decode prog_1_method_6_code 47 = .ok (.dup, 1)) ∧ (decode prog_1_method_6_code 48 = .ok (.ldc 141, 2)) ∧ (decode prog_1_method_6_code 50 = .ok (.invokespecial 68, 3)) ∧ (decode prog_1_method_6_code 53 = .ok (.athrow, 1)) ∧ (decode prog_1_method_6_code 54 = .ok (.iload 5, 2)) ∧ (decode prog_1_method_6_code 56 = .ok (.iconst 0, 1)) ∧ (decode prog_1_method_6_code 57 = .ok (.iconst 4, 1)) ∧ (decode prog_1_method_6_code 58 = .ok (.invokestatic 60, 3)) ∧ (decode prog_1_method_6_code 61 = .ok (.ifCond .eq 13, 3)) ∧ (decode prog_1_method_6_code 64 = .ok (.iload 6, 2)) ∧ (decode prog_1_method_6_code 66 = .ok (.iconst 0, 1)) ∧ (decode prog_1_method_6_code 67 = .ok (.iconst 4, 1)) ∧ (decode prog_1_method_6_code 68 = .ok (.invokestatic 60, 3)) ∧ (decode prog_1_method_6_code 71 = .ok (.ifCond .ne 13, 3)) ∧ (decode prog_1_method_6_code 74 = .ok (.new 64, 3)) ∧ (decode prog_1_method_6_code 77 = .ok (.dup, 1)) ∧ (decode prog_1_method_6_code 78 = .ok (.ldc 143, 2)) ∧ (decode prog_1_method_6_code 80 = .ok (.invokespecial 68, 3)) ∧ (decode prog_1_method_6_code 83 = .ok (.athrow, 1)) ∧ (decode prog_1_method_6_code 84 = .ok (.aload_n 0, 1)) ∧ (decode prog_1_method_6_code 85 = .ok (.getfield 46, 3)) ∧ (decode prog_1_method_6_code 88 = .ok (.iload_n 1, 1)) ∧ (decode prog_1_method_6_code 89 = .ok (.putfield 145, 3)) ∧ (decode prog_1_method_6_code 92 = .ok (.aload_n 0, 1)) ∧ (decode prog_1_method_6_code 93 = .ok (.getfield 46, 3)) ∧ (decode prog_1_method_6_code 96 = .ok (.iload_n 2, 1)) ∧ (decode prog_1_method_6_code 97 = .ok (.putfield 148, 3)) ∧ (decode prog_1_method_6_code 100 = .ok (.aload_n 0, 1)) ∧ (decode prog_1_method_6_code 101 = .ok (.getfield 46, 3)) ∧ (decode prog_1_method_6_code 104 = .ok (.iload_n 3, 1)) ∧ (decode prog_1_method_6_code 105 = .ok (.putfield 151, 3)) ∧ (decode prog_1_method_6_code 108 = .ok (.aload_n 0, 1)) ∧ (decode prog_1_method_6_code 109 = .ok (.getfield 46, 3)) ∧ (decode prog_1_method_6_code 112 = .ok (.iload 4, 2)) ∧ (decode prog_1_method_6_code 114 = .ok (.putfield 154, 3)) ∧ (decode prog_1_method_6_code 117 = .ok (.aload_n 0, 1)) ∧ (decode prog_1_method_6_code 118 = .ok (.getfield 46, 3)) ∧ (decode prog_1_method_6_code 121 = .ok (.iload 5, 2)) ∧ (decode prog_1_method_6_code 123 = .ok (.putfield 135, 3)) :=
  ⟨by decide +kernel, by decide +kernel, by decide +kernel, by decide +kernel, by decide +kernel, by decide +kernel, by decide +kernel, by decide +kernel, by decide +kernel, by decide +kernel, by decide +kernel, by decide +kernel, by decide +kernel, by decide +kernel, by decide +kernel, by decide +kernel, by decide +kernel, by decide +kernel, by decide +kernel, by decide +kernel, by decide +kernel, by decide +kernel, by decide +kernel, by decide +kernel, by decide +kernel, by decide +kernel, by decide +kernel, by decide +kernel, by decide +kernel, by decide +kernel, by decide +kernel, by decide +kernel, by decide +kernel, by decide +kernel, by decide +kernel, by decide +kernel, by decide +kernel, by decide +kernel, by decide +kernel, by decide +kernel, by decide +kernel, by decide +kernel, by decide +kernel, by decide +kernel, by decide +kernel, by decide +kernel, by decide +kernel, by decide +kernel, by decide +kernel, by decide +kernel, by decide +kernel, by decide +kernel, by decide +kernel, by decide +kernel, by decide +kernel, by decide +kernel, by decide +kernel, by decide +kernel, by decide +kernel, by decide +kernel⟩
theorem D_PT_blend_1 : (decode prog_1_method_6_code 126 = .ok (.aload_n 0, 1)) ∧ (decode prog_1_method_6_code 127 = .ok (.getfield 46, 3)) ∧ (decode prog_1_method_6_code 130 = .ok (.iload 6, 2)) ∧ (decode prog_1_method_6_code 132 = .ok (.putfield 157, 3)) ∧ (decode prog_1_method_6_code 135 = .ok (.return_, 1)) :=
  ⟨by decide +kernel, by decide +kernel, by decide +kernel, by decide +kernel, by decide +kernel⟩
def y_PT_isFactor : MethodName := ⟨"PlaceTests", "isFactor", "(I)Z"⟩
theorem D_PT_isFactor : (decode prog_1_method_24_code 0 = .ok (.iload_n 0, 1)) ∧ (decode prog_1_method_24_code 1 = .ok (.iconst 0, 1)) ∧ (decode prog_1_method_24_code 2 = .ok (.bipush 14, 2)) ∧ (decode prog_1_method_24_code 4 = .ok (.invokestatic 60, 3)) ∧ (decode prog_1_method_24_code 7 = .ok (.ireturn, 1)) :=
  ⟨by decide +kernel, by decide +kernel, by decide +kernel, by decide +kernel, by decide +kernel⟩
def y_PT_logic : MethodName := ⟨"PlaceTests", "logic", "(I)V"⟩
theorem D_PT_logic : (decode prog_1_method_8_code 0 = .ok (.iload_n 1, 1)) ∧ (decode prog_1_method_8_code 1 = .ok (.iconst (-1), 1)) ∧ (decode prog_1_method_8_code 2 = .ok (.bipush 15, 2)) ∧ (decode prog_1_method_8_code 4 = .ok (.invokestatic 60, 3)) ∧ (decode prog_1_method_8_code 7 = .ok (.ifCond .ne 13, 3)) ∧ (decode prog_1_method_8_code 10 = .ok (.new 64, 3)) ∧ (decode prog_1_method_8_code 13 = .ok (.dup, 1)) ∧ (decode prog_1_method_8_code 14 = .ok (.ldc 163, 2)) ∧ (decode prog_1_method_8_code 16 = .ok (.invokespecial 68, 3)) ∧ (decode prog_1_method_8_code 19 = .ok (.athrow, 1)) ∧ (decode prog_1_method_8_code 20 = .ok (.aload_n 0, 1)) ∧ (decode prog_1_method_8_code 21 = .ok (.iload_n 1, 1)) ∧ (decode prog_1_method_8_code 22 = .ok (.putfield 50, 3)) ∧ (decode prog_1_method_8_code 25 = .ok (.return_, 1)) :=
  ⟨by decide +kernel, by decide +kernel, by decide +kernel, by decide +kernel, by decide +kernel, by decide +kernel, by decide +kernel, by decide +kernel, by decide +kernel, by decide +kernel, by decide +kernel, by decide +kernel, by decide +kernel, by decide +kernel⟩
def y_PT_mask : MethodName := ⟨"PlaceTests", "mask", "(I)V"⟩
theorem D_PT_mask : (decode prog_1_method_9_code 0 = .ok (.iload_n 1, 1)) ∧ (decode prog_1_method_9_code 1 = .ok (.iconst 0, 1)) ∧ (decode prog_1_method_9_code 2 = .ok (.bipush 15, 2)) ∧ (decode prog_1_method_9_code 4 = .ok (.invokestatic 60, 3)) ∧ (decode prog_1_method_9_code 7 = .ok (.ifCond .ne 13, 3)) ∧ (decode prog_1_method_9_code 10 = .ok (.new 64, 3)) ∧ (decode prog_1_method_9_code 13 = .ok (.dup, 1)) ∧ (decode prog_1_method_9_code 14 = .ok (.ldc 165, 2)) ∧ (decode prog_1_method_9_code 16 = .ok (.invokespecial 68, 3)) ∧ (decode prog_1_method_9_code 19 = .ok (.athrow, 1)) ∧ (decode prog_1_method_9_code 20 = .ok (.aload_n 0, 1)) ∧ (decode prog_1_method_9_code 21 = .ok (.iload_n 1, 1)) ∧ (decode prog_1_method_9_code 22 = .ok (.invokestatic 167, 3)) ∧ (decode prog_1_method_9_code 25 = .ok (.putfield 53, 3)) ∧ (decode prog_1_method_9_code 28 = .ok (.return_, 1)) :=
  ⟨by decide +kernel, by decide +kernel, by decide +kernel, by decide +kernel, by decide +kernel, by decide +kernel, by decide +kernel, by decide +kernel, by decide +kernel, by decide +kernel, by decide +kernel, by decide +kernel, by decide +kernel, by decide +kernel, by decide +kernel⟩
def y_PT_clear : MethodName := ⟨"PlaceTests", "clear", "(IIII)I"⟩
theorem D_PT_clear_0 : (decode prog_1_method_10_code 0 = .ok (.iload_n 1, 1)) ∧ (decode prog_1_method_10_code 1 = .ok (.iconst 0, 1)) ∧ (decode prog_1_method_10_code 2 = .ok (.bipush 7, 2)) ∧ (decode prog_1_method_10_code 4 = .ok (.invokestatic 60, 3)) ∧ (decode prog_1_method_10_code 7 = .ok (.ifCond .ne 13, 3)) ∧ (decode prog_1_method_10_code 10 = .ok (.new 64, 3)) ∧ (decode prog_1_method_10_code 13 = .ok (.dup, 1)) ∧ (decode prog_1_method_10_code 14 = .ok (.ldc 173, 2)) ∧ (decode prog_1_method_10_code 16 = .ok (.invokespecial 68, 3)) ∧ (decode prog_1_method_10_code 19 = .ok (.athrow, 1)) ∧ (decode prog_1_method_10_code 20 = .ok (.iload_n 3, 1)) ∧ (decode prog_1_method_10_code 21 = .ok (.invokestatic 175, 3)) ∧ (decode prog_1_method_10_code 24 = .ok (.ifCond .ne 13, 3)) ∧ (decode prog_1_method_10_code 27 = .ok (.new 64, 3)) ∧ (decode prog_1_method_10_code 30 = .ok (.dup, 1)) ∧ (decode prog_1_method_10_code 31 = .ok (.ldc 178, 2)) ∧ (decode prog_1_method_10_code 33 = .ok (.invokespecial 68, 3)) ∧ (decode prog_1_method_10_code 36 = .ok (.athrow, 1)) ∧ (decode prog_1_method_10_code 37 = .ok (.iload 4, 2)) ∧ (decode prog_1_method_10_code 39 = .ok (.invokestatic 107, 3)) ∧ (decode prog_1_method_10_code 42 = .ok (.ifCond .ne 13, 3)) ∧ (decode prog_1_method_10_code 45 = .ok (.new 64, 3)) ∧ (decode prog_1_method_10_code 48 = .ok (.dup, 1)) ∧ (decode prog_1_method_10_code 49 = .ok (.ldc 180, 2)) ∧ (decode prog_1_method_10_code 51 = .ok (.invokespecial 68, 3)) ∧ (decode prog_1_method_10_code 54 = .ok (.athrow, 1)) ∧ (decode prog_1_method_10_code 55 = .ok (.iconst 0, 1)) ∧ (decode prog_1_method_10_code 56 = .ok (.istore 5, 2)) ∧ (decode prog_1_method_10_code 58 = .ok (.aload_n 0, 1)) ∧ (decode prog_1_method_10_code 59 = .ok (.getfield 12, 3)) ∧ (decode prog_1_method_10_code 62 = .ok (.getfield 182, 3)) ∧ (decode prog_1_method_10_code 65 = .ok (.istore 6, 2)) ∧ (decode prog_1_method_10_code 67 = .ok (.iload 6, 2)) ∧ (decode prog_1_method_10_code 69 = .ok (.aload_n 0, 1)) ∧ (decode prog_1_method_10_code 70 = .ok (.getfield 12, 3)) ∧ (decode prog_1_method_10_code 73 = .ok (.getfield 182, 3)) ∧ (decode prog_1_method_10_code 76 = .ok (.aload_n 0, 1)) ∧ (decode prog_1_method_10_code 77 = .ok (.getfield 12, 3)) ∧ (decode prog_1_method_10_code 80 = .ok (.getfield 183, 3)) ∧ (decode prog_1_method_10_code 83 = .ok (.iadd, 1)) ∧ (decode prog_1_method_10_code 84 = .ok (.if_icmp .ge 81, 3)) ∧ (decode prog_1_method_10_code 87 = .ok (.aload_n 0, 1)) ∧ (decode prog_1_method_10_code 88 = .ok (.getfield 12, 3)) ∧ (decode prog_1_method_10_code 91 = .ok (.getfield 186, 3)) ∧ (decode prog_1_method_10_code 94 = .ok (.istore 7, 2)) ∧ (decode prog_1_method_10_code 96 = .ok (.iload 7, 2)) ∧ (decode prog_1_method_10_code 98 = .ok (.aload_n 0, 1)) ∧ (decode prog_1_method_10_code 99 = .ok (.getfield 12, 3)) ∧ (decode prog_1_method_10_code 102 = .ok (.getfield 186, 3)) ∧ (decode prog_1_method_10_code 105 = .ok (.aload_n 0, 1)) ∧ (decode prog_1_method_10_code 106 = .ok (.getfield 12, 3)) ∧ (decode prog_1_method_10_code 109 = .ok (.getfield 187, 3)) ∧ (decode prog_1_method_10_code 112 = .ok (.iadd, 1)) ∧ (decode prog_1_method_10_code 113 = .ok (.if_icmp .ge 46, 3)) ∧ (decode prog_1_method_10_code 116 = .ok (.aload_n 0, 1)) ∧ (decode prog_1_method_10_code 117 = .ok (.getfield 21, 3)) ∧ (decode prog_1_method_10_code 120 = .ok (.iload 7, 2)) ∧ (decode prog_1_method_10_code 122 = .ok (.iload 6, 2)) ∧ (decode prog_1_method_10_code 124 = .ok (.invokevirtual 190, 3)) ∧ (decode prog_1_method_10_code 127 = .ok (.ifCond .eq 26, 3)) :=
  ⟨by decide +kernel, by decide +kernel, by decide +kernel, by decide +kernel, by decide +kernel, by decide +kernel, by decide +kernel, by decide +kernel, by decide +kernel, by decide +kernel, by decide +kernel, by decide +kernel, by decide +kernel, by decide +kernel, by decide +kernel, by decide +kernel, by decide +kernel, by decide +kernel, by decide +kernel, by decide +kernel, by decide +kernel, by decide +kernel, by decide +kernel, by decide +kernel, by decide +kernel, by decide +kernel, by decide +kernel, by decide +kernel, by decide +kernel, by decide +kernel, by decide +kernel, by decide +kernel, by decide +kernel, by decide +kernel, by decide +kernel, by decide +kernel, by decide +kernel, by decide +kernel, by decide +kernel, by decide +kernel, by decide +kernel, by decide +kernel, by decide +kernel, by decide +kernel, by decide +kernel, by decide +kernel, by decide +kernel, by decide +kernel, by decide +kernel, by decide +kernel, by decide +kernel, by decide +kernel, by decide +kernel, by decide +kernel, by decide +kernel, by decide +kernel, by decide +kernel, by decide +kernel, by decide +kernel, by decide +kernel⟩
theorem D_PT_clear_1 : (decode prog_1_method_10_code 130 = .ok (.aload_n 0, 1)) ∧ (decode prog_1_method_10_code 131 = .ok (.aload_n 0, 1)) ∧ (decode prog_1_method_10_code 132 = .ok (.getfield 12, 3)) ∧ (decode prog_1_method_10_code 135 = .ok (.iload 7, 2)) ∧ (decode prog_1_method_10_code 137 = .ok (.iload 6, 2)) ∧ (decode prog_1_method_10_code 139 = .ok (.invokevirtual 194, 3)) ∧ (decode prog_1_method_10_code 142 = .ok (.iload_n 1, 1)) ∧ (decode prog_1_method_10_code 143 = .ok (.iload_n 2, 1)) ∧ (decode prog_1_method_10_code 144 = .ok (.iload_n 3, 1)) ∧ (decode prog_1_method_10_code 145 = .ok (.iload 4, 2)) ∧ (decode prog_1_method_10_code 147 = .ok (.invokevirtual 198, 3)) ∧ (decode prog_1_method_10_code 150 = .ok (.iinc 5 1, 3)) ∧ (decode prog_1_method_10_code 153 = .ok (.iinc 7 1, 3)) ∧ (decode prog_1_method_10_code 156 = .ok (.goto (-60), 3)) ∧ (decode prog_1_method_10_code 159 = .ok (.iinc 6 1, 3)) ∧ (decode prog_1_method_10_code 162 = .ok (.goto (-95), 3)) ∧ (decode prog_1_method_10_code 165 = .ok (.iload 5, 2)) ∧ (decode prog_1_method_10_code 167 = .ok (.ireturn, 1)) :=
  ⟨by decide +kernel, by decide +kernel, by decide +kernel, by decide +kernel, by decide +kernel, by decide +kernel, by decide +kernel, by decide +kernel, by decide +kernel, by decide +kernel, by decide +kernel, by decide +kernel, by decide +kernel, by decide +kernel, by decide +kernel, by decide +kernel, by decide +kernel, by decide +kernel⟩
def y_PT_isDepth : MethodName := ⟨"PlaceTests", "isDepth", "(I)Z"⟩
theorem D_PT_isDepth : (decode prog_1_method_21_code 0 = .ok (.iload_n 0, 1)) ∧ (decode prog_1_method_21_code 1 = .ok (.iconst 0, 1)) ∧ (decode prog_1_method_21_code 2 = .ok (.ldc_w 260, 3)) ∧ (decode prog_1_method_21_code 5 = .ok (.invokestatic 60, 3)) ∧ (decode prog_1_method_21_code 8 = .ok (.ireturn, 1)) :=
  ⟨by decide +kernel, by decide +kernel, by decide +kernel, by decide +kernel, by decide +kernel⟩
def y_PT_clearPlace : MethodName := ⟨"PlaceTests", "clearPlace", "(IIIII)V"⟩
theorem D_PT_clearPlace_0 : (decode prog_1_method_17_code 0 = .ok (.iload_n 2, 1)) ∧ (decode prog_1_method_17_code 1 = .ok (.iconst 1, 1)) ∧ (decode prog_1_method_17_code 2 = .ok (.iand, 1)) ∧ (decode prog_1_method_17_code 3 = .ok (.ifCond .eq 29, 3)) ∧ (decode prog_1_method_17_code 6 = .ok (.aload_n 0, 1)) ∧ (decode prog_1_method_17_code 7 = .ok (.getfield 12, 3)) ∧ (decode prog_1_method_17_code 10 = .ok (.getfield 244, 3)) ∧ (decode prog_1_method_17_code 13 = .ok (.iload_n 1, 1)) ∧ (decode prog_1_method_17_code 14 = .ok (.aload_n 0, 1)) ∧ (decode prog_1_method_17_code 15 = .ok (.getfield 12, 3)) ∧ (decode prog_1_method_17_code 18 = .ok (.getfield 244, 3)) ∧ (decode prog_1_method_17_code 21 = .ok (.iload_n 1, 1)) ∧ (decode prog_1_method_17_code 22 = .ok (.iaload, 1)) ∧ (decode prog_1_method_17_code 23 = .ok (.iload_n 3, 1)) ∧ (decode prog_1_method_17_code 24 = .ok (.aload_n 0, 1)) ∧ (decode prog_1_method_17_code 25 = .ok (.getfield 53, 3)) ∧ (decode prog_1_method_17_code 28 = .ok (.invokestatic 250, 3)) ∧ (decode prog_1_method_17_code 31 = .ok (.iastore, 1)) ∧ (decode prog_1_method_17_code 32 = .ok (.iload_n 2, 1)) ∧ (decode prog_1_method_17_code 33 = .ok (.iconst 2, 1)) ∧ (decode prog_1_method_17_code 34 = .ok (.iand, 1)) ∧ (decode prog_1_method_17_code 35 = .ok (.ifCond .eq 29, 3)) ∧ (decode prog_1_method_17_code 38 = .ok (.aload_n 0, 1)) ∧ (decode prog_1_method_17_code 39 = .ok (.getfield 25, 3)) ∧ (decode prog_1_method_17_code 42 = .ok (.iconst (-1), 1)) ∧ (decode prog_1_method_17_code 43 = .ok (.if_icmp .eq 10, 3)) ∧ (decode prog_1_method_17_code 46 = .ok (.aload_n 0, 1)) ∧ (decode prog_1_method_17_code 47 = .ok (.getfield 29, 3)) ∧ (decode prog_1_method_17_code 50 = .ok (.ifCond .eq 14, 3)) ∧ (decode prog_1_method_17_code 53 = .ok (.aload_n 0, 1)) ∧ (decode prog_1_method_17_code 54 = .ok (.getfield 12, 3)) ∧ (decode prog_1_method_17_code 57 = .ok (.getfield 238, 3)) ∧ (decode prog_1_method_17_code 60 = .ok (.iload_n 1, 1)) ∧ (decode prog_1_method_17_code 61 = .ok (.iload 4, 2)) ∧ (decode prog_1_method_17_code 63 = .ok (.iastore, 1)) ∧ (decode prog_1_method_17_code 64 = .ok (.iload_n 2, 1)) ∧ (decode prog_1_method_17_code 65 = .ok (.iconst 4, 1)) ∧ (decode prog_1_method_17_code 66 = .ok (.iand, 1)) ∧ (decode prog_1_method_17_code 67 = .ok (.ifCond .eq 54, 3)) ∧ (decode prog_1_method_17_code 70 = .ok (.aload_n 0, 1)) ∧ (decode prog_1_method_17_code 71 = .ok (.getfield 36, 3)) ∧ (decode prog_1_method_17_code 74 = .ok (.getfield 104, 3)) ∧ (decode prog_1_method_17_code 77 = .ok (.iconst (-1), 1)) ∧ (decode prog_1_method_17_code 78 = .ok (.if_icmp .ne 9, 3)) ∧ (decode prog_1_method_17_code 81 = .ok (.sipush 255, 3)) ∧ (decode prog_1_method_17_code 84 = .ok (.goto 10, 3)) ∧ (decode prog_1_method_17_code 87 = .ok (.aload_n 0, 1)) ∧ (decode prog_1_method_17_code 88 = .ok (.getfield 36, 3)) ∧ (decode prog_1_method_17_code 91 = .ok (.getfield 123, 3)) ∧ (decode prog_1_method_17_code 94 = .ok (.istore 6, 2)) ∧ (decode prog_1_method_17_code 96 = .ok (.aload_n 0, 1)) ∧ (decode prog_1_method_17_code 97 = .ok (.getfield 12, 3)) ∧ (decode prog_1_method_17_code 100 = .ok (.getfield 229, 3)) ∧ (decode prog_1_method_17_code 103 = .ok (.iload_n 1, 1)) ∧ (decode prog_1_method_17_code 104 = .ok (.aload_n 0, 1)) ∧ (decode prog_1_method_17_code 105 = .ok (.getfield 12, 3)) ∧ (decode prog_1_method_17_code 108 = .ok (.getfield 229, 3)) ∧ (decode prog_1_method_17_code 111 = .ok (.iload_n 1, 1)) ∧ (decode prog_1_method_17_code 112 = .ok (.iaload, 1)) ∧ (decode prog_1_method_17_code 113 = .ok (.iload 5, 2)) :=
  ⟨by decide +kernel, by decide +kernel, by decide +kernel, by decide +kernel, by decide +kernel, by decide +kernel, by decide +kernel, by decide +kernel, by decide +kernel, by decide +kernel, by decide +kernel, by decide +kernel, by decide +kernel, by decide +kernel, by decide +kernel, by decide +kernel, by decide +kernel, by decide +kernel, by decide +kernel, by decide +kernel, by decide +kernel, by decide +kernel, by decide +kernel, by decide +kernel, by decide +kernel, by decide +kernel, by decide +kernel, by decide +kernel, by decide +kernel, by decide +kernel, by decide +kernel, by decide +kernel, by decide +kernel, by decide +kernel, by decide +kernel, by decide +kernel, by decide +kernel, by decide +kernel, by decide +kernel, by decide +kernel, by decide +kernel, by decide +kernel, by decide +kernel, by decide +kernel, by decide +kernel, by decide +kernel, by decide +kernel, by decide +kernel, by decide +kernel, by decide +kernel, by decide +kernel, by decide +kernel, by decide +kernel, by decide +kernel, by decide +kernel, by decide +kernel, by decide +kernel, by decide +kernel, by decide +kernel, by decide +kernel⟩
theorem D_PT_clearPlace_1 : (decode prog_1_method_17_code 115 = .ok (.iload 6, 2)) ∧ (decode prog_1_method_17_code 117 = .ok (.invokestatic 250, 3)) ∧ (decode prog_1_method_17_code 120 = .ok (.iastore, 1)) ∧ (decode prog_1_method_17_code 121 = .ok (.return_, 1)) :=
  ⟨by decide +kernel, by decide +kernel, by decide +kernel, by decide +kernel⟩
def y_PT_merged : MethodName := ⟨"PlaceTests", "merged", "(III)I"⟩
theorem D_PT_merged : (decode prog_1_method_26_code 0 = .ok (.iload_n 0, 1)) ∧ (decode prog_1_method_26_code 1 = .ok (.iload_n 2, 1)) ∧ (decode prog_1_method_26_code 2 = .ok (.iconst (-1), 1)) ∧ (decode prog_1_method_26_code 3 = .ok (.ixor, 1)) ∧ (decode prog_1_method_26_code 4 = .ok (.iand, 1)) ∧ (decode prog_1_method_26_code 5 = .ok (.iload_n 1, 1)) ∧ (decode prog_1_method_26_code 6 = .ok (.iload_n 2, 1)) ∧ (decode prog_1_method_26_code 7 = .ok (.iand, 1)) ∧ (decode prog_1_method_26_code 8 = .ok (.ior, 1)) ∧ (decode prog_1_method_26_code 9 = .ok (.ireturn, 1)) :=
  ⟨by decide +kernel, by decide +kernel, by decide +kernel, by decide +kernel, by decide +kernel, by decide +kernel, by decide +kernel, by decide +kernel, by decide +kernel, by decide +kernel⟩
def y_PT_draw : MethodName := ⟨"PlaceTests", "draw", "(IIIIIIII)I"⟩
theorem D_PT_draw : (decode prog_1_method_11_code 0 = .ok (.iload_n 3, 1)) ∧ (decode prog_1_method_11_code 1 = .ok (.invokestatic 175, 3)) ∧ (decode prog_1_method_11_code 4 = .ok (.ifCond .ne 13, 3)) ∧ (decode prog_1_method_11_code 7 = .ok (.new 64, 3)) ∧ (decode prog_1_method_11_code 10 = .ok (.dup, 1)) ∧ (decode prog_1_method_11_code 11 = .ok (.ldc 178, 2)) ∧ (decode prog_1_method_11_code 13 = .ok (.invokespecial 68, 3)) ∧ (decode prog_1_method_11_code 16 = .ok (.athrow, 1)) ∧ (decode prog_1_method_11_code 17 = .ok (.iload 4, 2)) ∧ (decode prog_1_method_11_code 19 = .ok (.invokestatic 94, 3)) ∧ (decode prog_1_method_11_code 22 = .ok (.ifCond .ne 13, 3)) ∧ (decode prog_1_method_11_code 25 = .ok (.new 64, 3)) ∧ (decode prog_1_method_11_code 28 = .ok (.dup, 1)) ∧ (decode prog_1_method_11_code 29 = .ok (.ldc 98, 2)) ∧ (decode prog_1_method_11_code 31 = .ok (.invokespecial 68, 3)) ∧ (decode prog_1_method_11_code 34 = .ok (.athrow, 1)) ∧ (decode prog_1_method_11_code 35 = .ok (.iconst 0, 1)) ∧ (decode prog_1_method_11_code 36 = .ok (.istore 9, 2)) ∧ (decode prog_1_method_11_code 38 = .ok (.aload_n 0, 1)) ∧ (decode prog_1_method_11_code 39 = .ok (.getfield 12, 3)) ∧ (decode prog_1_method_11_code 42 = .ok (.iload_n 1, 1)) ∧ (decode prog_1_method_11_code 43 = .ok (.iload_n 2, 1)) ∧ (decode prog_1_method_11_code 44 = .ok (.invokevirtual 202, 3)) ∧ (decode prog_1_method_11_code 47 = .ok (.ifCond .eq 48, 3)) ∧ (decode prog_1_method_11_code 50 = .ok (.aload_n 0, 1)) ∧ (decode prog_1_method_11_code 51 = .ok (.getfield 21, 3)) ∧ (decode prog_1_method_11_code 54 = .ok (.iload_n 1, 1)) ∧ (decode prog_1_method_11_code 55 = .ok (.iload_n 2, 1)) ∧ (decode prog_1_method_11_code 56 = .ok (.invokevirtual 190, 3)) ∧ (decode prog_1_method_11_code 59 = .ok (.ifCond .eq 36, 3)) ∧ (decode prog_1_method_11_code 62 = .ok (.aload_n 0, 1)) ∧ (decode prog_1_method_11_code 63 = .ok (.aload_n 0, 1)) ∧ (decode prog_1_method_11_code 64 = .ok (.getfield 12, 3)) ∧ (decode prog_1_method_11_code 67 = .ok (.iload_n 1, 1)) ∧ (decode prog_1_method_11_code 68 = .ok (.iload_n 2, 1)) ∧ (decode prog_1_method_11_code 69 = .ok (.invokevirtual 194, 3)) ∧ (decode prog_1_method_11_code 72 = .ok (.iload_n 3, 1)) ∧ (decode prog_1_method_11_code 73 = .ok (.aload_n 0, 1)) ∧ (decode prog_1_method_11_code 74 = .ok (.iload 4, 2)) ∧ (decode prog_1_method_11_code 76 = .ok (.invokevirtual 100, 3)) ∧ (decode prog_1_method_11_code 79 = .ok (.iload 5, 2)) ∧ (decode prog_1_method_11_code 81 = .ok (.iload 6, 2)) ∧ (decode prog_1_method_11_code 83 = .ok (.iload 7, 2)) ∧ (decode prog_1_method_11_code 85 = .ok (.iload 8, 2)) ∧ (decode prog_1_method_11_code 87 = .ok (.invokestatic 205, 3)) ∧ (decode prog_1_method_11_code 90 = .ok (.invokevirtual 209, 3)) ∧ (decode prog_1_method_11_code 93 = .ok (.istore 9, 2)) ∧ (decode prog_1_method_11_code 95 = .ok (.aload_n 0, 1)) ∧ (decode prog_1_method_11_code 96 = .ok (.getfield 56, 3)) ∧ (decode prog_1_method_11_code 99 = .ok (.iload 9, 2)) ∧ (decode prog_1_method_11_code 101 = .ok (.dup2, 1)) ∧ (decode prog_1_method_11_code 102 = .ok (.iaload, 1)) ∧ (decode prog_1_method_11_code 103 = .ok (.iconst 1, 1)) ∧ (decode prog_1_method_11_code 104 = .ok (.iadd, 1)) ∧ (decode prog_1_method_11_code 105 = .ok (.iastore, 1)) ∧ (decode prog_1_method_11_code 106 = .ok (.iload 9, 2)) ∧ (decode prog_1_method_11_code 108 = .ok (.ireturn, 1)) :=
  ⟨by decide +kernel, by decide +kernel, by decide +kernel, by decide +kernel, by decide +kernel, by decide +kernel, by decide +kernel, by decide +kernel, by decide +kernel, by decide +kernel, by decide +kernel, by decide +kernel, by decide +kernel, by decide +kernel, by decide +kernel, by decide +kernel, by decide +kernel, by decide +kernel, by decide +kernel, by decide +kernel, by decide +kernel, by decide +kernel, by decide +kernel, by decide +kernel, by decide +kernel, by decide +kernel, by decide +kernel, by decide +kernel, by decide +kernel, by decide +kernel, by decide +kernel, by decide +kernel, by decide +kernel, by decide +kernel, by decide +kernel, by decide +kernel, by decide +kernel, by decide +kernel, by decide +kernel, by decide +kernel, by decide +kernel, by decide +kernel, by decide +kernel, by decide +kernel, by decide +kernel, by decide +kernel, by decide +kernel, by decide +kernel, by decide +kernel, by decide +kernel, by decide +kernel, by decide +kernel, by decide +kernel, by decide +kernel, by decide +kernel, by decide +kernel, by decide +kernel⟩
def y_PT_drawOpen : MethodName := ⟨"PlaceTests", "drawOpen", "(IILPlaceTests$StencilRule;I)I"⟩
theorem D_PT_drawOpen_0 : (decode prog_1_method_15_code 0 = .ok (.aload_n 0, 1)) ∧ (decode prog_1_method_15_code 1 = .ok (.getfield 12, 3)) ∧ (decode prog_1_method_15_code 4 = .ok (.getfield 229, 3)) ∧ (decode prog_1_method_15_code 7 = .ok (.iload_n 1, 1)) ∧ (decode prog_1_method_15_code 8 = .ok (.iaload, 1)) ∧ (decode prog_1_method_15_code 9 = .ok (.istore 5, 2)) ∧ (decode prog_1_method_15_code 11 = .ok (.aload_n 3, 1)) ∧ (decode prog_1_method_15_code 12 = .ok (.iload 5, 2)) ∧ (decode prog_1_method_15_code 14 = .ok (.invokevirtual 232, 3)) ∧ (decode prog_1_method_15_code 17 = .ok (.ifCond .ne 24, 3)) ∧ (decode prog_1_method_15_code 20 = .ok (.aload_n 0, 1)) ∧ (decode prog_1_method_15_code 21 = .ok (.getfield 12, 3)) ∧ (decode prog_1_method_15_code 24 = .ok (.getfield 229, 3)) ∧ (decode prog_1_method_15_code 27 = .ok (.iload_n 1, 1)) ∧ (decode prog_1_method_15_code 28 = .ok (.aload_n 3, 1)) ∧ (decode prog_1_method_15_code 29 = .ok (.iload 5, 2)) ∧ (decode prog_1_method_15_code 31 = .ok (.aload_n 3, 1)) ∧ (decode prog_1_method_15_code 32 = .ok (.getfield 126, 3)) ∧ (decode prog_1_method_15_code 35 = .ok (.invokevirtual 235, 3)) ∧ (decode prog_1_method_15_code 38 = .ok (.iastore, 1)) ∧ (decode prog_1_method_15_code 39 = .ok (.iconst 1, 1)) ∧ (decode prog_1_method_15_code 40 = .ok (.ireturn, 1)) ∧ (decode prog_1_method_15_code 41 = .ok (.aload_n 0, 1)) ∧ (decode prog_1_method_15_code 42 = .ok (.getfield 25, 3)) ∧ (decode prog_1_method_15_code 45 = .ok (.iconst (-1), 1)) ∧ (decode prog_1_method_15_code 46 = .ok (.if_icmp .eq 44, 3)) ∧ (decode prog_1_method_15_code 49 = .ok (.aload_n 0, 1)) ∧ (decode prog_1_method_15_code 50 = .ok (.getfield 25, 3)) ∧ (decode prog_1_method_15_code 53 = .ok (.iload_n 2, 1)) ∧ (decode prog_1_method_15_code 54 = .ok (.aload_n 0, 1)) ∧ (decode prog_1_method_15_code 55 = .ok (.getfield 12, 3)) ∧ (decode prog_1_method_15_code 58 = .ok (.getfield 238, 3)) ∧ (decode prog_1_method_15_code 61 = .ok (.iload_n 1, 1)) ∧ (decode prog_1_method_15_code 62 = .ok (.iaload, 1)) ∧ (decode prog_1_method_15_code 63 = .ok (.invokestatic 241, 3)) ∧ (decode prog_1_method_15_code 66 = .ok (.ifCond .ne 24, 3)) ∧ (decode prog_1_method_15_code 69 = .ok (.aload_n 0, 1)) ∧ (decode prog_1_method_15_code 70 = .ok (.getfield 12, 3)) ∧ (decode prog_1_method_15_code 73 = .ok (.getfield 229, 3)) ∧ (decode prog_1_method_15_code 76 = .ok (.iload_n 1, 1)) ∧ (decode prog_1_method_15_code 77 = .ok (.aload_n 3, 1)) ∧ (decode prog_1_method_15_code 78 = .ok (.iload 5, 2)) ∧ (decode prog_1_method_15_code 80 = .ok (.aload_n 3, 1)) ∧ (decode prog_1_method_15_code 81 = .ok (.getfield 129, 3)) ∧ (decode prog_1_method_15_code 84 = .ok (.invokevirtual 235, 3)) ∧ (decode prog_1_method_15_code 87 = .ok (.iastore, 1)) ∧ (decode prog_1_method_15_code 88 = .ok (.iconst 2, 1)) ∧ (decode prog_1_method_15_code 89 = .ok (.ireturn, 1)) ∧ (decode prog_1_method_15_code 90 = .ok (.aload_n 0, 1)) ∧ (decode prog_1_method_15_code 91 = .ok (.getfield 12, 3)) ∧ (decode prog_1_method_15_code 94 = .ok (.getfield 229, 3)) ∧ (decode prog_1_method_15_code 97 = .ok (.iload_n 1, 1)) ∧ (decode prog_1_method_15_code 98 = .ok (.aload_n 3, 1)) ∧ (decode prog_1_method_15_code 99 = .ok (.iload 5, 2)) ∧ (decode prog_1_method_15_code 101 = .ok (.aload_n 3, 1)) ∧ (decode prog_1_method_15_code 102 = .ok (.getfield 132, 3)) ∧ (decode prog_1_method_15_code 105 = .ok (.invokevirtual 235, 3)) ∧ (decode prog_1_method_15_code 108 = .ok (.iastore, 1)) ∧ (decode prog_1_method_15_code 109 = .ok (.aload_n 0, 1)) ∧ (decode prog_1_method_15_code 110 = .ok (.getfield 25, 3)) :=
  ⟨by decide +kernel, by decide +kernel, by decide +kernel, by decide +kernel, by decide +kernel, by decide +kernel, by decide +kernel, by decide +kernel, by decide +kernel, by decide +kernel, by decide +kernel, by decide +kernel, by decide +kernel, by decide +kernel, by decide +kernel, by decide +kernel, by decide +kernel, by decide +kernel, by decide +kernel, by decide +kernel, by decide +kernel, by decide +kernel, by decide +kernel, by decide +kernel, by decide +kernel, by decide +kernel, by decide +kernel, by decide +kernel, by decide +kernel, by decide +kernel, by decide +kernel, by decide +kernel, by decide +kernel, by decide +kernel, by decide +kernel, by decide +kernel, by decide +kernel, by decide +kernel, by decide +kernel, by decide +kernel, by decide +kernel, by decide +kernel, by decide +kernel, by decide +kernel, by decide +kernel, by decide +kernel, by decide +kernel, by decide +kernel, by decide +kernel, by decide +kernel, by decide +kernel, by decide +kernel, by decide +kernel, by decide +kernel, by decide +kernel, by decide +kernel, by decide +kernel, by decide +kernel, by decide +kernel, by decide +kernel⟩
theorem D_PT_drawOpen_1 : (decode prog_1_method_15_code 113 = .ok (.iconst (-1), 1)) ∧ (decode prog_1_method_15_code 114 = .ok (.if_icmp .eq 20, 3)) ∧ (decode prog_1_method_15_code 117 = .ok (.aload_n 0, 1)) ∧ (decode prog_1_method_15_code 118 = .ok (.getfield 29, 3)) ∧ (decode prog_1_method_15_code 121 = .ok (.ifCond .eq 13, 3)) ∧ (decode prog_1_method_15_code 124 = .ok (.aload_n 0, 1)) ∧ (decode prog_1_method_15_code 125 = .ok (.getfield 12, 3)) ∧ (decode prog_1_method_15_code 128 = .ok (.getfield 238, 3)) ∧ (decode prog_1_method_15_code 131 = .ok (.iload_n 1, 1)) ∧ (decode prog_1_method_15_code 132 = .ok (.iload_n 2, 1)) ∧ (decode prog_1_method_15_code 133 = .ok (.iastore, 1)) ∧ (decode prog_1_method_15_code 134 = .ok (.aload_n 0, 1)) ∧ (decode prog_1_method_15_code 135 = .ok (.getfield 12, 3)) ∧ (decode prog_1_method_15_code 138 = .ok (.getfield 244, 3)) ∧ (decode prog_1_method_15_code 141 = .ok (.iload_n 1, 1)) ∧ (decode prog_1_method_15_code 142 = .ok (.iaload, 1)) ∧ (decode prog_1_method_15_code 143 = .ok (.istore 6, 2)) ∧ (decode prog_1_method_15_code 145 = .ok (.aload_n 0, 1)) ∧ (decode prog_1_method_15_code 146 = .ok (.getfield 12, 3)) ∧ (decode prog_1_method_15_code 149 = .ok (.getfield 244, 3)) ∧ (decode prog_1_method_15_code 152 = .ok (.iload_n 1, 1)) ∧ (decode prog_1_method_15_code 153 = .ok (.iload 6, 2)) ∧ (decode prog_1_method_15_code 155 = .ok (.aload_n 0, 1)) ∧ (decode prog_1_method_15_code 156 = .ok (.iload 4, 2)) ∧ (decode prog_1_method_15_code 158 = .ok (.iload 6, 2)) ∧ (decode prog_1_method_15_code 160 = .ok (.invokevirtual 247, 3)) ∧ (decode prog_1_method_15_code 163 = .ok (.aload_n 0, 1)) ∧ (decode prog_1_method_15_code 164 = .ok (.getfield 53, 3)) ∧ (decode prog_1_method_15_code 167 = .ok (.invokestatic 250, 3)) ∧ (decode prog_1_method_15_code 170 = .ok (.iastore, 1)) ∧ (decode prog_1_method_15_code 171 = .ok (.iconst 3, 1)) ∧ (decode prog_1_method_15_code 172 = .ok (.ireturn, 1)) :=
  ⟨by decide +kernel, by decide +kernel, by decide +kernel, by decide +kernel, by decide +kernel, by decide +kernel, by decide +kernel, by decide +kernel, by decide +kernel, by decide +kernel, by decide +kernel, by decide +kernel, by decide +kernel, by decide +kernel, by decide +kernel, by decide +kernel, by decide +kernel, by decide +kernel, by decide +kernel, by decide +kernel, by decide +kernel, by decide +kernel, by decide +kernel, by decide +kernel, by decide +kernel, by decide +kernel, by decide +kernel, by decide +kernel, by decide +kernel, by decide +kernel, by decide +kernel, by decide +kernel⟩
def y_PT_compares : MethodName := ⟨"PlaceTests", "compares", "(III)Z"⟩
theorem D_PT_compares : (decode prog_1_method_25_code 0 = .ok (.iload_n 0, 1)) ∧ (decode prog_1_method_25_code 1 = .ok (.tableswitch 111 0 6 #[43, 45, 56, 67, 78, 89, 100], 43)) ∧ (decode prog_1_method_25_code 44 = .ok (.iconst 0, 1)) ∧ (decode prog_1_method_25_code 45 = .ok (.ireturn, 1)) ∧ (decode prog_1_method_25_code 46 = .ok (.iload_n 1, 1)) ∧ (decode prog_1_method_25_code 47 = .ok (.iload_n 2, 1)) ∧ (decode prog_1_method_25_code 48 = .ok (.if_icmp .ge 7, 3)) ∧ (decode prog_1_method_25_code 51 = .ok (.iconst 1, 1)) ∧ (decode prog_1_method_25_code 52 = .ok (.goto 4, 3)) ∧ (decode prog_1_method_25_code 55 = .ok (.iconst 0, 1)) ∧ (decode prog_1_method_25_code 56 = .ok (.ireturn, 1)) ∧ (decode prog_1_method_25_code 57 = .ok (.iload_n 1, 1)) ∧ (decode prog_1_method_25_code 58 = .ok (.iload_n 2, 1)) ∧ (decode prog_1_method_25_code 59 = .ok (.if_icmp .ne 7, 3)) ∧ (decode prog_1_method_25_code 62 = .ok (.iconst 1, 1)) ∧ (decode prog_1_method_25_code 63 = .ok (.goto 4, 3)) ∧ (decode prog_1_method_25_code 66 = .ok (.iconst 0, 1)) ∧ (decode prog_1_method_25_code 67 = .ok (.ireturn, 1)) ∧ (decode prog_1_method_25_code 68 = .ok (.iload_n 1, 1)) ∧ (decode prog_1_method_25_code 69 = .ok (.iload_n 2, 1)) ∧ (decode prog_1_method_25_code 70 = .ok (.if_icmp .gt 7, 3)) ∧ (decode prog_1_method_25_code 73 = .ok (.iconst 1, 1)) ∧ (decode prog_1_method_25_code 74 = .ok (.goto 4, 3)) ∧ (decode prog_1_method_25_code 77 = .ok (.iconst 0, 1)) ∧ (decode prog_1_method_25_code 78 = .ok (.ireturn, 1)) ∧ (decode prog_1_method_25_code 79 = .ok (.iload_n 1, 1)) ∧ (decode prog_1_method_25_code 80 = .ok (.iload_n 2, 1)) ∧ (decode prog_1_method_25_code 81 = .ok (.if_icmp .le 7, 3)) ∧ (decode prog_1_method_25_code 84 = .ok (.iconst 1, 1)) ∧ (decode prog_1_method_25_code 85 = .ok (.goto 4, 3)) ∧ (decode prog_1_method_25_code 88 = .ok (.iconst 0, 1)) ∧ (decode prog_1_method_25_code 89 = .ok (.ireturn, 1)) ∧ (decode prog_1_method_25_code 90 = .ok (.iload_n 1, 1)) ∧ (decode prog_1_method_25_code 91 = .ok (.iload_n 2, 1)) ∧ (decode prog_1_method_25_code 92 = .ok (.if_icmp .eq 7, 3)) ∧ (decode prog_1_method_25_code 95 = .ok (.iconst 1, 1)) ∧ (decode prog_1_method_25_code 96 = .ok (.goto 4, 3)) ∧ (decode prog_1_method_25_code 99 = .ok (.iconst 0, 1)) ∧ (decode prog_1_method_25_code 100 = .ok (.ireturn, 1)) ∧ (decode prog_1_method_25_code 101 = .ok (.iload_n 1, 1)) ∧ (decode prog_1_method_25_code 102 = .ok (.iload_n 2, 1)) ∧ (decode prog_1_method_25_code 103 = .ok (.if_icmp .lt 7, 3)) ∧ (decode prog_1_method_25_code 106 = .ok (.iconst 1, 1)) ∧ (decode prog_1_method_25_code 107 = .ok (.goto 4, 3)) ∧ (decode prog_1_method_25_code 110 = .ok (.iconst 0, 1)) ∧ (decode prog_1_method_25_code 111 = .ok (.ireturn, 1)) ∧ (decode prog_1_method_25_code 112 = .ok (.iconst 1, 1)) ∧ (decode prog_1_method_25_code 113 = .ok (.ireturn, 1)) :=
  ⟨by decide +kernel, by decide +kernel, by decide +kernel, by decide +kernel, by decide +kernel, by decide +kernel, by decide +kernel, by decide +kernel, by decide +kernel, by decide +kernel, by decide +kernel, by decide +kernel, by decide +kernel, by decide +kernel, by decide +kernel, by decide +kernel, by decide +kernel, by decide +kernel, by decide +kernel, by decide +kernel, by decide +kernel, by decide +kernel, by decide +kernel, by decide +kernel, by decide +kernel, by decide +kernel, by decide +kernel, by decide +kernel, by decide +kernel, by decide +kernel, by decide +kernel, by decide +kernel, by decide +kernel, by decide +kernel, by decide +kernel, by decide +kernel, by decide +kernel, by decide +kernel, by decide +kernel, by decide +kernel, by decide +kernel, by decide +kernel, by decide +kernel, by decide +kernel, by decide +kernel, by decide +kernel, by decide +kernel, by decide +kernel⟩
def y_PT_newColour : MethodName := ⟨"PlaceTests", "newColour", "(II)I"⟩
theorem D_PT_newColour : (decode prog_1_method_16_code 0 = .ok (.aload_n 0, 1)) ∧ (decode prog_1_method_16_code 1 = .ok (.getfield 50, 3)) ∧ (decode prog_1_method_16_code 4 = .ok (.iconst (-1), 1)) ∧ (decode prog_1_method_16_code 5 = .ok (.if_icmp .eq 13, 3)) ∧ (decode prog_1_method_16_code 8 = .ok (.aload_n 0, 1)) ∧ (decode prog_1_method_16_code 9 = .ok (.getfield 50, 3)) ∧ (decode prog_1_method_16_code 12 = .ok (.iload_n 1, 1)) ∧ (decode prog_1_method_16_code 13 = .ok (.iload_n 2, 1)) ∧ (decode prog_1_method_16_code 14 = .ok (.invokestatic 254, 3)) ∧ (decode prog_1_method_16_code 17 = .ok (.ireturn, 1)) ∧ (decode prog_1_method_16_code 18 = .ok (.aload_n 0, 1)) ∧ (decode prog_1_method_16_code 19 = .ok (.getfield 46, 3)) ∧ (decode prog_1_method_16_code 22 = .ok (.getfield 135, 3)) ∧ (decode prog_1_method_16_code 25 = .ok (.iconst (-1), 1)) ∧ (decode prog_1_method_16_code 26 = .ok (.if_icmp .eq 15, 3)) ∧ (decode prog_1_method_16_code 29 = .ok (.aload_n 0, 1)) ∧ (decode prog_1_method_16_code 30 = .ok (.getfield 46, 3)) ∧ (decode prog_1_method_16_code 33 = .ok (.iload_n 1, 1)) ∧ (decode prog_1_method_16_code 34 = .ok (.iload_n 2, 1)) ∧ (decode prog_1_method_16_code 35 = .ok (.invokevirtual 257, 3)) ∧ (decode prog_1_method_16_code 38 = .ok (.goto 4, 3)) ∧ (decode prog_1_method_16_code 41 = .ok (.iload_n 1, 1)) ∧ (decode prog_1_method_16_code 42 = .ok (.ireturn, 1)) :=
  ⟨by decide +kernel, by decide +kernel, by decide +kernel, by decide +kernel, by decide +kernel, by decide +kernel, by decide +kernel, by decide +kernel, by decide +kernel, by decide +kernel, by decide +kernel, by decide +kernel, by decide +kernel, by decide +kernel, by decide +kernel, by decide +kernel, by decide +kernel, by decide +kernel, by decide +kernel, by decide +kernel, by decide +kernel, by decide +kernel, by decide +kernel⟩
def y_PT_at : MethodName := ⟨"PlaceTests", "at", "(III)I"⟩
theorem D_PT_at : (decode prog_1_method_12_code 0 = .ok (.iload_n 3, 1)) ∧ (decode prog_1_method_12_code 1 = .ok (.iconst 0, 1)) ∧ (decode prog_1_method_12_code 2 = .ok (.iconst 2, 1)) ∧ (decode prog_1_method_12_code 3 = .ok (.invokestatic 60, 3)) ∧ (decode prog_1_method_12_code 6 = .ok (.ifCond .ne 13, 3)) ∧ (decode prog_1_method_12_code 9 = .ok (.new 64, 3)) ∧ (decode prog_1_method_12_code 12 = .ok (.dup, 1)) ∧ (decode prog_1_method_12_code 13 = .ok (.ldc 213, 2)) ∧ (decode prog_1_method_12_code 15 = .ok (.invokespecial 68, 3)) ∧ (decode prog_1_method_12_code 18 = .ok (.athrow, 1)) ∧ (decode prog_1_method_12_code 19 = .ok (.aload_n 0, 1)) ∧ (decode prog_1_method_12_code 20 = .ok (.getfield 12, 3)) ∧ (decode prog_1_method_12_code 23 = .ok (.iload_n 1, 1)) ∧ (decode prog_1_method_12_code 24 = .ok (.iload_n 2, 1)) ∧ (decode prog_1_method_12_code 25 = .ok (.invokevirtual 202, 3)) ∧ (decode prog_1_method_12_code 28 = .ok (.ifCond .ne 13, 3)) ∧ (decode prog_1_method_12_code 31 = .ok (.new 215, 3)) ∧ (decode prog_1_method_12_code 34 = .ok (.dup, 1)) ∧ (decode prog_1_method_12_code 35 = .ok (.ldc 217, 2)) ∧ (decode prog_1_method_12_code 37 = .ok (.invokespecial 219, 3)) ∧ (decode prog_1_method_12_code 40 = .ok (.athrow, 1)) ∧ (decode prog_1_method_12_code 41 = .ok (.aload_n 0, 1)) ∧ (decode prog_1_method_12_code 42 = .ok (.getfield 12, 3)) ∧ (decode prog_1_method_12_code 45 = .ok (.iload_n 3, 1)) ∧ (decode prog_1_method_12_code 46 = .ok (.invokevirtual 220, 3)) ∧ (decode prog_1_method_12_code 49 = .ok (.aload_n 0, 1)) ∧ (decode prog_1_method_12_code 50 = .ok (.getfield 12, 3)) ∧ (decode prog_1_method_12_code 53 = .ok (.iload_n 1, 1)) ∧ (decode prog_1_method_12_code 54 = .ok (.iload_n 2, 1)) ∧ (decode prog_1_method_12_code 55 = .ok (.invokevirtual 194, 3)) ∧ (decode prog_1_method_12_code 58 = .ok (.iaload, 1)) ∧ (decode prog_1_method_12_code 59 = .ok (.ireturn, 1)) :=
  ⟨by decide +kernel, by decide +kernel, by decide +kernel, by decide +kernel, by decide +kernel, by decide +kernel, by decide +kernel, by decide +kernel, by decide +kernel, by decide +kernel, by decide +kernel, by decide +kernel, by decide +kernel, by decide +kernel, by decide +kernel, by decide +kernel, by decide +kernel, by decide +kernel, by decide +kernel, by decide +kernel, by decide +kernel, by decide +kernel, by decide +kernel, by decide +kernel, by decide +kernel, by decide +kernel, by decide +kernel, by decide +kernel, by decide +kernel, by decide +kernel, by decide +kernel, by decide +kernel⟩
def y_PT_drawn : MethodName := ⟨"PlaceTests", "drawn", "(I)I"⟩
theorem D_PT_drawn : (decode prog_1_method_13_code 0 = .ok (.iload_n 1, 1)) ∧ (decode prog_1_method_13_code 1 = .ok (.iconst 0, 1)) ∧ (decode prog_1_method_13_code 2 = .ok (.iconst 3, 1)) ∧ (decode prog_1_method_13_code 3 = .ok (.invokestatic 60, 3)) ∧ (decode prog_1_method_13_code 6 = .ok (.ifCond .ne 13, 3)) ∧ (decode prog_1_method_13_code 9 = .ok (.new 64, 3)) ∧ (decode prog_1_method_13_code 12 = .ok (.dup, 1)) ∧ (decode prog_1_method_13_code 13 = .ok (.ldc 224, 2)) ∧ (decode prog_1_method_13_code 15 = .ok (.invokespecial 68, 3)) ∧ (decode prog_1_method_13_code 18 = .ok (.athrow, 1)) ∧ (decode prog_1_method_13_code 19 = .ok (.aload_n 0, 1)) ∧ (decode prog_1_method_13_code 20 = .ok (.getfield 56, 3)) ∧ (decode prog_1_method_13_code 23 = .ok (.iload_n 1, 1)) ∧ (decode prog_1_method_13_code 24 = .ok (.iaload, 1)) ∧ (decode prog_1_method_13_code 25 = .ok (.ireturn, 1)) :=
  ⟨by decide +kernel, by decide +kernel, by decide +kernel, by decide +kernel, by decide +kernel, by decide +kernel, by decide +kernel, by decide +kernel, by decide +kernel, by decide +kernel, by decide +kernel, by decide +kernel, by decide +kernel, by decide +kernel, by decide +kernel⟩
def y_PT_sum : MethodName := ⟨"PlaceTests", "sum", "(I)I"⟩
theorem D_PT_sum : (decode prog_1_method_14_code 0 = .ok (.iload_n 1, 1)) ∧ (decode prog_1_method_14_code 1 = .ok (.iconst 0, 1)) ∧ (decode prog_1_method_14_code 2 = .ok (.iconst 2, 1)) ∧ (decode prog_1_method_14_code 3 = .ok (.invokestatic 60, 3)) ∧ (decode prog_1_method_14_code 6 = .ok (.ifCond .ne 13, 3)) ∧ (decode prog_1_method_14_code 9 = .ok (.new 64, 3)) ∧ (decode prog_1_method_14_code 12 = .ok (.dup, 1)) ∧ (decode prog_1_method_14_code 13 = .ok (.ldc 213, 2)) ∧ (decode prog_1_method_14_code 15 = .ok (.invokespecial 68, 3)) ∧ (decode prog_1_method_14_code 18 = .ok (.athrow, 1)) ∧ (decode prog_1_method_14_code 19 = .ok (.aload_n 0, 1)) ∧ (decode prog_1_method_14_code 20 = .ok (.getfield 12, 3)) ∧ (decode prog_1_method_14_code 23 = .ok (.iload_n 1, 1)) ∧ (decode prog_1_method_14_code 24 = .ok (.invokevirtual 220, 3)) ∧ (decode prog_1_method_14_code 27 = .ok (.astore_n 2, 1)) ∧ (decode prog_1_method_14_code 28 = .ok (.iconst 0, 1)) ∧ (decode prog_1_method_14_code 29 = .ok (.istore_n 3, 1)) ∧ (decode prog_1_method_14_code 30 = .ok (.iconst 0, 1)) ∧ (decode prog_1_method_14_code 31 = .ok (.istore 4, 2)) ∧ (decode prog_1_method_14_code 33 = .ok (.iload 4, 2)) ∧ (decode prog_1_method_14_code 35 = .ok (.aload_n 0, 1)) ∧ (decode prog_1_method_14_code 36 = .ok (.getfield 12, 3)) ∧ (decode prog_1_method_14_code 39 = .ok (.getfield 226, 3)) ∧ (decode prog_1_method_14_code 42 = .ok (.if_icmp .ge 19, 3)) ∧ (decode prog_1_method_14_code 45 = .ok (.bipush 31, 2)) ∧ (decode prog_1_method_14_code 47 = .ok (.iload_n 3, 1)) ∧ (decode prog_1_method_14_code 48 = .ok (.imul, 1)) ∧ (decode prog_1_method_14_code 49 = .ok (.aload_n 2, 1)) ∧ (decode prog_1_method_14_code 50 = .ok (.iload 4, 2)) ∧ (decode prog_1_method_14_code 52 = .ok (.iaload, 1)) ∧ (decode prog_1_method_14_code 53 = .ok (.iadd, 1)) ∧ (decode prog_1_method_14_code 54 = .ok (.istore_n 3, 1)) ∧ (decode prog_1_method_14_code 55 = .ok (.iinc 4 1, 3)) ∧ (decode prog_1_method_14_code 58 = .ok (.goto (-25), 3)) ∧ (decode prog_1_method_14_code 61 = .ok (.iload_n 3, 1)) ∧ (decode prog_1_method_14_code 62 = .ok (.ireturn, 1)) :=
  ⟨by decide +kernel, by decide +kernel, by decide +kernel, by decide +kernel, by decide +kernel, by decide +kernel, by decide +kernel, by decide +kernel, by decide +kernel, by decide +kernel, by decide +kernel, by decide +kernel, by decide +kernel, by decide +kernel, by decide +kernel, by decide +kernel, by decide +kernel, by decide +kernel, by decide +kernel, by decide +kernel, by decide +kernel, by decide +kernel, by decide +kernel, by decide +kernel, by decide +kernel, by decide +kernel, by decide +kernel, by decide +kernel, by decide +kernel, by decide +kernel, by decide +kernel, by decide +kernel, by decide +kernel, by decide +kernel, by decide +kernel, by decide +kernel⟩
end
section
def y_FR_init : MethodName := ⟨"PlaceTests$Frame", "<init>", "(I)V"⟩
theorem D_FR_init : (decode prog_4_method_1_code 0 = .ok (.aload_n 0, 1)) ∧ (decode prog_4_method_1_code 1 = .ok (.invokespecial 5, 3)) ∧ (decode prog_4_method_1_code 4 = .ok (.aload_n 0, 1)) ∧ (decode prog_4_method_1_code 5 = .ok (.iconst 1, 1)) ∧ (decode prog_4_method_1_code 6 = .ok (.iload_n 1, 1)) ∧ (decode prog_4_method_1_code 7 = .ok (.sipush 4096, 3)) ∧ (decode prog_4_method_1_code 10 = .ok (.invokestatic 11, 3)) ∧ (decode prog_4_method_1_code 13 = .ok (.invokestatic 17, 3)) ∧ (decode prog_4_method_1_code 16 = .ok (.putfield 20, 3)) ∧ (decode prog_4_method_1_code 19 = .ok (.aload_n 0, 1)) ∧ (decode prog_4_method_1_code 20 = .ok (.aload_n 0, 1)) ∧ (decode prog_4_method_1_code 21 = .ok (.getfield 20, 3)) ∧ (decode prog_4_method_1_code 24 = .ok (.newarray .int, 2)) ∧ (decode prog_4_method_1_code 26 = .ok (.putfield 24, 3)) ∧ (decode prog_4_method_1_code 29 = .ok (.aload_n 0, 1)) ∧ (decode prog_4_method_1_code 30 = .ok (.aload_n 0, 1)) ∧ (decode prog_4_method_1_code 31 = .ok (.getfield 20, 3)) ∧ (decode prog_4_method_1_code 34 = .ok (.newarray .int, 2)) ∧ (decode prog_4_method_1_code 36 = .ok (.putfield 28, 3)) ∧ (decode prog_4_method_1_code 39 = .ok (.aload_n 0, 1)) ∧ (decode prog_4_method_1_code 40 = .ok (.aload_n 0, 1)) ∧ (decode prog_4_method_1_code 41 = .ok (.getfield 20, 3)) ∧ (decode prog_4_method_1_code 44 = .ok (.newarray .int, 2)) ∧ (decode prog_4_method_1_code 46 = .ok (.putfield 31, 3)) ∧ (decode prog_4_method_1_code 49 = .ok (.aload_n 0, 1)) ∧ (decode prog_4_method_1_code 50 = .ok (.iconst 0, 1)) ∧ (decode prog_4_method_1_code 51 = .ok (.putfield 34, 3)) ∧ (decode prog_4_method_1_code 54 = .ok (.aload_n 0, 1)) ∧ (decode prog_4_method_1_code 55 = .ok (.iconst 0, 1)) ∧ (decode prog_4_method_1_code 56 = .ok (.putfield 37, 3)) ∧ (decode prog_4_method_1_code 59 = .ok (.aload_n 0, 1)) ∧ (decode prog_4_method_1_code 60 = .ok (.iconst 1, 1)) ∧ (decode prog_4_method_1_code 61 = .ok (.putfield 40, 3)) ∧ (decode prog_4_method_1_code 64 = .ok (.aload_n 0, 1)) ∧ (decode prog_4_method_1_code 65 = .ok (.iconst 1, 1)) ∧ (decode prog_4_method_1_code 66 = .ok (.putfield 43, 3)) ∧ (decode prog_4_method_1_code 69 = .ok (.aload_n 0, 1)) ∧ (decode prog_4_method_1_code 70 = .ok (.iconst 1, 1)) ∧ (decode prog_4_method_1_code 71 = .ok (.putfield 46, 3)) ∧ (decode prog_4_method_1_code 74 = .ok (.return_, 1)) :=
  ⟨by decide +kernel, by decide +kernel, by decide +kernel, by decide +kernel, by decide +kernel, by decide +kernel, by decide +kernel, by decide +kernel, by decide +kernel, by decide +kernel, by decide +kernel, by decide +kernel, by decide +kernel, by decide +kernel, by decide +kernel, by decide +kernel, by decide +kernel, by decide +kernel, by decide +kernel, by decide +kernel, by decide +kernel, by decide +kernel, by decide +kernel, by decide +kernel, by decide +kernel, by decide +kernel, by decide +kernel, by decide +kernel, by decide +kernel, by decide +kernel, by decide +kernel, by decide +kernel, by decide +kernel, by decide +kernel, by decide +kernel, by decide +kernel, by decide +kernel, by decide +kernel, by decide +kernel, by decide +kernel⟩
def y_FR_begin : MethodName := ⟨"PlaceTests$Frame", "begin", "(IIII)V"⟩
theorem D_FR_begin : (decode prog_4_method_2_code 0 = .ok (.aload_n 0, 1)) ∧ (decode prog_4_method_2_code 1 = .ok (.iload_n 1, 1)) ∧ (decode prog_4_method_2_code 2 = .ok (.putfield 34, 3)) ∧ (decode prog_4_method_2_code 5 = .ok (.aload_n 0, 1)) ∧ (decode prog_4_method_2_code 6 = .ok (.iload_n 2, 1)) ∧ (decode prog_4_method_2_code 7 = .ok (.putfield 37, 3)) ∧ (decode prog_4_method_2_code 10 = .ok (.aload_n 0, 1)) ∧ (decode prog_4_method_2_code 11 = .ok (.iload_n 3, 1)) ∧ (decode prog_4_method_2_code 12 = .ok (.putfield 40, 3)) ∧ (decode prog_4_method_2_code 15 = .ok (.aload_n 0, 1)) ∧ (decode prog_4_method_2_code 16 = .ok (.iload 4, 2)) ∧ (decode prog_4_method_2_code 18 = .ok (.putfield 43, 3)) ∧ (decode prog_4_method_2_code 21 = .ok (.aload_n 0, 1)) ∧ (decode prog_4_method_2_code 22 = .ok (.iload_n 3, 1)) ∧ (decode prog_4_method_2_code 23 = .ok (.iload 4, 2)) ∧ (decode prog_4_method_2_code 25 = .ok (.imul, 1)) ∧ (decode prog_4_method_2_code 26 = .ok (.putfield 46, 3)) ∧ (decode prog_4_method_2_code 29 = .ok (.iconst 0, 1)) ∧ (decode prog_4_method_2_code 30 = .ok (.istore 5, 2)) ∧ (decode prog_4_method_2_code 32 = .ok (.iload 5, 2)) ∧ (decode prog_4_method_2_code 34 = .ok (.aload_n 0, 1)) ∧ (decode prog_4_method_2_code 35 = .ok (.getfield 46, 3)) ∧ (decode prog_4_method_2_code 38 = .ok (.if_icmp .ge 33, 3)) ∧ (decode prog_4_method_2_code 41 = .ok (.aload_n 0, 1)) ∧ (decode prog_4_method_2_code 42 = .ok (.getfield 24, 3)) ∧ (decode prog_4_method_2_code 45 = .ok (.iload 5, 2)) ∧ (decode prog_4_method_2_code 47 = .ok (.iconst 0, 1)) ∧ (decode prog_4_method_2_code 48 = .ok (.iastore, 1)) ∧ (decode prog_4_method_2_code 49 = .ok (.aload_n 0, 1)) ∧ (decode prog_4_method_2_code 50 = .ok (.getfield 28, 3)) ∧ (decode prog_4_method_2_code 53 = .ok (.iload 5, 2)) ∧ (decode prog_4_method_2_code 55 = .ok (.iconst 0, 1)) ∧ (decode prog_4_method_2_code 56 = .ok (.iastore, 1)) ∧ (decode prog_4_method_2_code 57 = .ok (.aload_n 0, 1)) ∧ (decode prog_4_method_2_code 58 = .ok (.getfield 31, 3)) ∧ (decode prog_4_method_2_code 61 = .ok (.iload 5, 2)) ∧ (decode prog_4_method_2_code 63 = .ok (.iconst 0, 1)) ∧ (decode prog_4_method_2_code 64 = .ok (.iastore, 1)) ∧ (decode prog_4_method_2_code 65 = .ok (.iinc 5 1, 3)) ∧ (decode prog_4_method_2_code 68 = .ok (.goto (-36), 3)) ∧ (decode prog_4_method_2_code 71 = .ok (.return_, 1)) :=
  ⟨by decide +kernel, by decide +kernel, by decide +kernel, by decide +kernel, by decide +kernel, by decide +kernel, by decide +kernel, by decide +kernel, by decide +kernel, by decide +kernel, by decide +kernel, by decide +kernel, by decide +kernel, by decide +kernel, by decide +kernel, by decide +kernel, by decide +kernel, by decide +kernel, by decide +kernel, by decide +kernel, by decide +kernel, by decide +kernel, by decide +kernel, by decide +kernel, by decide +kernel, by decide +kernel, by decide +kernel, by decide +kernel, by decide +kernel, by decide +kernel, by decide +kernel, by decide +kernel, by decide +kernel, by decide +kernel, by decide +kernel, by decide +kernel, by decide +kernel, by decide +kernel, by decide +kernel, by decide +kernel, by decide +kernel⟩
def y_FR_indexOf : MethodName := ⟨"PlaceTests$Frame", "indexOf", "(II)I"⟩
theorem D_FR_indexOf : (decode prog_4_method_4_code 0 = .ok (.iload_n 2, 1)) ∧ (decode prog_4_method_4_code 1 = .ok (.aload_n 0, 1)) ∧ (decode prog_4_method_4_code 2 = .ok (.getfield 37, 3)) ∧ (decode prog_4_method_4_code 5 = .ok (.isub, 1)) ∧ (decode prog_4_method_4_code 6 = .ok (.aload_n 0, 1)) ∧ (decode prog_4_method_4_code 7 = .ok (.getfield 40, 3)) ∧ (decode prog_4_method_4_code 10 = .ok (.imul, 1)) ∧ (decode prog_4_method_4_code 11 = .ok (.iload_n 1, 1)) ∧ (decode prog_4_method_4_code 12 = .ok (.aload_n 0, 1)) ∧ (decode prog_4_method_4_code 13 = .ok (.getfield 34, 3)) ∧ (decode prog_4_method_4_code 16 = .ok (.isub, 1)) ∧ (decode prog_4_method_4_code 17 = .ok (.iadd, 1)) ∧ (decode prog_4_method_4_code 18 = .ok (.ireturn, 1)) :=
  ⟨by decide +kernel, by decide +kernel, by decide +kernel, by decide +kernel, by decide +kernel, by decide +kernel, by decide +kernel, by decide +kernel, by decide +kernel, by decide +kernel, by decide +kernel, by decide +kernel, by decide +kernel⟩
def y_FR_has : MethodName := ⟨"PlaceTests$Frame", "has", "(II)Z"⟩
theorem D_FR_has : (decode prog_4_method_3_code 0 = .ok (.iload_n 1, 1)) ∧ (decode prog_4_method_3_code 1 = .ok (.aload_n 0, 1)) ∧ (decode prog_4_method_3_code 2 = .ok (.getfield 34, 3)) ∧ (decode prog_4_method_3_code 5 = .ok (.if_icmp .lt 41, 3)) ∧ (decode prog_4_method_3_code 8 = .ok (.iload_n 1, 1)) ∧ (decode prog_4_method_3_code 9 = .ok (.aload_n 0, 1)) ∧ (decode prog_4_method_3_code 10 = .ok (.getfield 34, 3)) ∧ (decode prog_4_method_3_code 13 = .ok (.aload_n 0, 1)) ∧ (decode prog_4_method_3_code 14 = .ok (.getfield 40, 3)) ∧ (decode prog_4_method_3_code 17 = .ok (.iadd, 1)) ∧ (decode prog_4_method_3_code 18 = .ok (.if_icmp .ge 28, 3)) ∧ (decode prog_4_method_3_code 21 = .ok (.iload_n 2, 1)) ∧ (decode prog_4_method_3_code 22 = .ok (.aload_n 0, 1)) ∧ (decode prog_4_method_3_code 23 = .ok (.getfield 37, 3)) ∧ (decode prog_4_method_3_code 26 = .ok (.if_icmp .lt 20, 3)) ∧ (decode prog_4_method_3_code 29 = .ok (.iload_n 2, 1)) ∧ (decode prog_4_method_3_code 30 = .ok (.aload_n 0, 1)) ∧ (decode prog_4_method_3_code 31 = .ok (.getfield 37, 3)) ∧ (decode prog_4_method_3_code 34 = .ok (.aload_n 0, 1)) ∧ (decode prog_4_method_3_code 35 = .ok (.getfield 43, 3)) ∧ (decode prog_4_method_3_code 38 = .ok (.iadd, 1)) ∧ (decode prog_4_method_3_code 39 = .ok (.if_icmp .ge 7, 3)) ∧ (decode prog_4_method_3_code 42 = .ok (.iconst 1, 1)) ∧ (decode prog_4_method_3_code 43 = .ok (.goto 4, 3)) ∧ (decode prog_4_method_3_code 46 = .ok (.iconst 0, 1)) ∧ (decode prog_4_method_3_code 47 = .ok (.ireturn, 1)) :=
  ⟨by decide +kernel, by decide +kernel, by decide +kernel, by decide +kernel, by decide +kernel, by decide +kernel, by decide +kernel, by decide +kernel, by decide +kernel, by decide +kernel, by decide +kernel, by decide +kernel, by decide +kernel, by decide +kernel, by decide +kernel, by decide +kernel, by decide +kernel, by decide +kernel, by decide +kernel, by decide +kernel, by decide +kernel, by decide +kernel, by decide +kernel, by decide +kernel, by decide +kernel, by decide +kernel⟩
def y_FR_rowsOf : MethodName := ⟨"PlaceTests$Frame", "rowsOf", "(I)[I"⟩
theorem D_FR_rowsOf : (decode prog_4_method_5_code 0 = .ok (.iload_n 1, 1)) ∧ (decode prog_4_method_5_code 1 = .ok (.ifCond .ne 8, 3)) ∧ (decode prog_4_method_5_code 4 = .ok (.aload_n 0, 1)) ∧ (decode prog_4_method_5_code 5 = .ok (.getfield 24, 3)) ∧ (decode prog_4_method_5_code 8 = .ok (.areturn, 1)) ∧ (decode prog_4_method_5_code 9 = .ok (.iload_n 1, 1)) ∧ (decode prog_4_method_5_code 10 = .ok (.iconst 1, 1)) ∧ (decode prog_4_method_5_code 11 = .ok (.if_icmp .ne 10, 3)) ∧ (decode prog_4_method_5_code 14 = .ok (.aload_n 0, 1)) ∧ (decode prog_4_method_5_code 15 = .ok (.getfield 28, 3)) ∧ (decode prog_4_method_5_code 18 = .ok (.goto 7, 3)) ∧ (decode prog_4_method_5_code 21 = .ok (.aload_n 0, 1)) ∧ (decode prog_4_method_5_code 22 = .ok (.getfield 31, 3)) ∧ (decode prog_4_method_5_code 25 = .ok (.areturn, 1)) :=
  ⟨by decide +kernel, by decide +kernel, by decide +kernel, by decide +kernel, by decide +kernel, by decide +kernel, by decide +kernel, by decide +kernel, by decide +kernel, by decide +kernel, by decide +kernel, by decide +kernel, by decide +kernel, by decide +kernel⟩
end
section
def y_SC_init : MethodName := ⟨"PlaceTests$Scissors", "<init>", "()V"⟩
theorem D_SC_init : (decode prog_5_method_1_code 0 = .ok (.aload_n 0, 1)) ∧ (decode prog_5_method_1_code 1 = .ok (.invokespecial 1, 3)) ∧ (decode prog_5_method_1_code 4 = .ok (.aload_n 0, 1)) ∧ (decode prog_5_method_1_code 5 = .ok (.iconst 0, 1)) ∧ (decode prog_5_method_1_code 6 = .ok (.putfield 7, 3)) ∧ (decode prog_5_method_1_code 9 = .ok (.aload_n 0, 1)) ∧ (decode prog_5_method_1_code 10 = .ok (.iconst 0, 1)) ∧ (decode prog_5_method_1_code 11 = .ok (.putfield 13, 3)) ∧ (decode prog_5_method_1_code 14 = .ok (.aload_n 0, 1)) ∧ (decode prog_5_method_1_code 15 = .ok (.iconst (-1), 1)) ∧ (decode prog_5_method_1_code 16 = .ok (.putfield 16, 3)) ∧ (decode prog_5_method_1_code 19 = .ok (.aload_n 0, 1)) ∧ (decode prog_5_method_1_code 20 = .ok (.iconst 0, 1)) ∧ (decode prog_5_method_1_code 21 = .ok (.putfield 19, 3)) ∧ (decode prog_5_method_1_code 24 = .ok (.return_, 1)) :=
  ⟨by decide +kernel, by decide +kernel, by decide +kernel, by decide +kernel, by decide +kernel, by decide +kernel, by decide +kernel, by decide +kernel, by decide +kernel, by decide +kernel, by decide +kernel, by decide +kernel, by decide +kernel, by decide +kernel, by decide +kernel⟩
def y_SC_hold : MethodName := ⟨"PlaceTests$Scissors", "hold", "(II)Z"⟩
theorem D_SC_hold : (decode prog_5_method_2_code 0 = .ok (.aload_n 0, 1)) ∧ (decode prog_5_method_2_code 1 = .ok (.getfield 16, 3)) ∧ (decode prog_5_method_2_code 4 = .ok (.aload_n 0, 1)) ∧ (decode prog_5_method_2_code 5 = .ok (.getfield 7, 3)) ∧ (decode prog_5_method_2_code 8 = .ok (.if_icmp .lt 35, 3)) ∧ (decode prog_5_method_2_code 11 = .ok (.iload_n 1, 1)) ∧ (decode prog_5_method_2_code 12 = .ok (.aload_n 0, 1)) ∧ (decode prog_5_method_2_code 13 = .ok (.getfield 7, 3)) ∧ (decode prog_5_method_2_code 16 = .ok (.if_icmp .lt 31, 3)) ∧ (decode prog_5_method_2_code 19 = .ok (.iload_n 1, 1)) ∧ (decode prog_5_method_2_code 20 = .ok (.aload_n 0, 1)) ∧ (decode prog_5_method_2_code 21 = .ok (.getfield 16, 3)) ∧ (decode prog_5_method_2_code 24 = .ok (.if_icmp .ge 23, 3)) ∧ (decode prog_5_method_2_code 27 = .ok (.iload_n 2, 1)) ∧ (decode prog_5_method_2_code 28 = .ok (.aload_n 0, 1)) ∧ (decode prog_5_method_2_code 29 = .ok (.getfield 13, 3)) ∧ (decode prog_5_method_2_code 32 = .ok (.if_icmp .lt 15, 3)) ∧ (decode prog_5_method_2_code 35 = .ok (.iload_n 2, 1)) ∧ (decode prog_5_method_2_code 36 = .ok (.aload_n 0, 1)) ∧ (decode prog_5_method_2_code 37 = .ok (.getfield 19, 3)) ∧ (decode prog_5_method_2_code 40 = .ok (.if_icmp .ge 7, 3)) ∧ (decode prog_5_method_2_code 43 = .ok (.iconst 1, 1)) ∧ (decode prog_5_method_2_code 44 = .ok (.goto 4, 3)) ∧ (decode prog_5_method_2_code 47 = .ok (.iconst 0, 1)) ∧ (decode prog_5_method_2_code 48 = .ok (.ireturn, 1)) :=
  ⟨by decide +kernel, by decide +kernel, by decide +kernel, by decide +kernel, by decide +kernel, by decide +kernel, by decide +kernel, by decide +kernel, by decide +kernel, by decide +kernel, by decide +kernel, by decide +kernel, by decide +kernel, by decide +kernel, by decide +kernel, by decide +kernel, by decide +kernel, by decide +kernel, by decide +kernel, by decide +kernel, by decide +kernel, by decide +kernel, by decide +kernel, by decide +kernel, by decide +kernel⟩
end
section
def y_ST_init : MethodName := ⟨"PlaceTests$StencilRule", "<init>", "()V"⟩
theorem D_ST_init : (decode prog_6_method_1_code 0 = .ok (.aload_n 0, 1)) ∧ (decode prog_6_method_1_code 1 = .ok (.invokespecial 3, 3)) ∧ (decode prog_6_method_1_code 4 = .ok (.aload_n 0, 1)) ∧ (decode prog_6_method_1_code 5 = .ok (.iconst (-1), 1)) ∧ (decode prog_6_method_1_code 6 = .ok (.putfield 9, 3)) ∧ (decode prog_6_method_1_code 9 = .ok (.return_, 1)) :=
  ⟨by decide +kernel, by decide +kernel, by decide +kernel, by decide +kernel, by decide +kernel, by decide +kernel⟩
def y_ST_allows : MethodName := ⟨"PlaceTests$StencilRule", "allows", "(I)Z"⟩
theorem D_ST_allows : (decode prog_6_method_2_code 0 = .ok (.aload_n 0, 1)) ∧ (decode prog_6_method_2_code 1 = .ok (.getfield 9, 3)) ∧ (decode prog_6_method_2_code 4 = .ok (.iconst (-1), 1)) ∧ (decode prog_6_method_2_code 5 = .ok (.if_icmp .eq 28, 3)) ∧ (decode prog_6_method_2_code 8 = .ok (.aload_n 0, 1)) ∧ (decode prog_6_method_2_code 9 = .ok (.getfield 9, 3)) ∧ (decode prog_6_method_2_code 12 = .ok (.aload_n 0, 1)) ∧ (decode prog_6_method_2_code 13 = .ok (.getfield 15, 3)) ∧ (decode prog_6_method_2_code 16 = .ok (.aload_n 0, 1)) ∧ (decode prog_6_method_2_code 17 = .ok (.getfield 18, 3)) ∧ (decode prog_6_method_2_code 20 = .ok (.iand, 1)) ∧ (decode prog_6_method_2_code 21 = .ok (.iload_n 1, 1)) ∧ (decode prog_6_method_2_code 22 = .ok (.aload_n 0, 1)) ∧ (decode prog_6_method_2_code 23 = .ok (.getfield 18, 3)) ∧ (decode prog_6_method_2_code 26 = .ok (.iand, 1)) ∧ (decode prog_6_method_2_code 27 = .ok (.invokestatic 21, 3)) ∧ (decode prog_6_method_2_code 30 = .ok (.ifCond .eq 7, 3)) ∧ (decode prog_6_method_2_code 33 = .ok (.iconst 1, 1)) ∧ (decode prog_6_method_2_code 34 = .ok (.goto 4, 3)) ∧ (decode prog_6_method_2_code 37 = .ok (.iconst 0, 1)) ∧ (decode prog_6_method_2_code 38 = .ok (.ireturn, 1)) :=
  ⟨by decide +kernel, by decide +kernel, by decide +kernel, by decide +kernel, by decide +kernel, by decide +kernel, by decide +kernel, by decide +kernel, by decide +kernel, by decide +kernel, by decide +kernel, by decide +kernel, by decide +kernel, by decide +kernel, by decide +kernel, by decide +kernel, by decide +kernel, by decide +kernel, by decide +kernel, by decide +kernel, by decide +kernel⟩
def y_ST_changed : MethodName := ⟨"PlaceTests$StencilRule", "changed", "(II)I"⟩
theorem D_ST_changed : (decode prog_6_method_3_code 0 = .ok (.aload_n 0, 1)) ∧ (decode prog_6_method_3_code 1 = .ok (.getfield 9, 3)) ∧ (decode prog_6_method_3_code 4 = .ok (.iconst (-1), 1)) ∧ (decode prog_6_method_3_code 5 = .ok (.if_icmp .ne 7, 3)) ∧ (decode prog_6_method_3_code 8 = .ok (.iload_n 1, 1)) ∧ (decode prog_6_method_3_code 9 = .ok (.goto 17, 3)) ∧ (decode prog_6_method_3_code 12 = .ok (.iload_n 1, 1)) ∧ (decode prog_6_method_3_code 13 = .ok (.aload_n 0, 1)) ∧ (decode prog_6_method_3_code 14 = .ok (.iload_n 1, 1)) ∧ (decode prog_6_method_3_code 15 = .ok (.iload_n 2, 1)) ∧ (decode prog_6_method_3_code 16 = .ok (.invokevirtual 25, 3)) ∧ (decode prog_6_method_3_code 19 = .ok (.aload_n 0, 1)) ∧ (decode prog_6_method_3_code 20 = .ok (.getfield 29, 3)) ∧ (decode prog_6_method_3_code 23 = .ok (.invokestatic 32, 3)) ∧ (decode prog_6_method_3_code 26 = .ok (.ireturn, 1)) :=
  ⟨by decide +kernel, by decide +kernel, by decide +kernel, by decide +kernel, by decide +kernel, by decide +kernel, by decide +kernel, by decide +kernel, by decide +kernel, by decide +kernel, by decide +kernel, by decide +kernel, by decide +kernel, by decide +kernel, by decide +kernel⟩
def y_ST_afterDeed : MethodName := ⟨"PlaceTests$StencilRule", "afterDeed", "(II)I"⟩
theorem D_ST_afterDeed : (decode prog_6_method_4_code 0 = .ok (.iload_n 2, 1)) ∧ (decode prog_6_method_4_code 1 = .ok (.tableswitch 92 1 7 #[43, 45, 50, 60, 68, 76, 84], 43)) ∧ (decode prog_6_method_4_code 44 = .ok (.iconst 0, 1)) ∧ (decode prog_6_method_4_code 45 = .ok (.ireturn, 1)) ∧ (decode prog_6_method_4_code 46 = .ok (.aload_n 0, 1)) ∧ (decode prog_6_method_4_code 47 = .ok (.getfield 15, 3)) ∧ (decode prog_6_method_4_code 50 = .ok (.ireturn, 1)) ∧ (decode prog_6_method_4_code 51 = .ok (.iload_n 1, 1)) ∧ (decode prog_6_method_4_code 52 = .ok (.iconst 1, 1)) ∧ (decode prog_6_method_4_code 53 = .ok (.iadd, 1)) ∧ (decode prog_6_method_4_code 54 = .ok (.sipush 255, 3)) ∧ (decode prog_6_method_4_code 57 = .ok (.invokestatic 36, 3)) ∧ (decode prog_6_method_4_code 60 = .ok (.ireturn, 1)) ∧ (decode prog_6_method_4_code 61 = .ok (.iload_n 1, 1)) ∧ (decode prog_6_method_4_code 62 = .ok (.iconst 1, 1)) ∧ (decode prog_6_method_4_code 63 = .ok (.isub, 1)) ∧ (decode prog_6_method_4_code 64 = .ok (.iconst 0, 1)) ∧ (decode prog_6_method_4_code 65 = .ok (.invokestatic 41, 3)) ∧ (decode prog_6_method_4_code 68 = .ok (.ireturn, 1)) ∧ (decode prog_6_method_4_code 69 = .ok (.iload_n 1, 1)) ∧ (decode prog_6_method_4_code 70 = .ok (.iconst (-1), 1)) ∧ (decode prog_6_method_4_code 71 = .ok (.ixor, 1)) ∧ (decode prog_6_method_4_code 72 = .ok (.sipush 255, 3)) ∧ (decode prog_6_method_4_code 75 = .ok (.iand, 1)) ∧ (decode prog_6_method_4_code 76 = .ok (.ireturn, 1)) ∧ (decode prog_6_method_4_code 77 = .ok (.iload_n 1, 1)) ∧ (decode prog_6_method_4_code 78 = .ok (.iconst 1, 1)) ∧ (decode prog_6_method_4_code 79 = .ok (.iadd, 1)) ∧ (decode prog_6_method_4_code 80 = .ok (.sipush 255, 3)) ∧ (decode prog_6_method_4_code 83 = .ok (.iand, 1)) ∧ (decode prog_6_method_4_code 84 = .ok (.ireturn, 1)) ∧ (decode prog_6_method_4_code 85 = .ok (.iload_n 1, 1)) ∧ (decode prog_6_method_4_code 86 = .ok (.iconst 1, 1)) ∧ (decode prog_6_method_4_code 87 = .ok (.isub, 1)) ∧ (decode prog_6_method_4_code 88 = .ok (.sipush 255, 3)) ∧ (decode prog_6_method_4_code 91 = .ok (.iand, 1)) ∧ (decode prog_6_method_4_code 92 = .ok (.ireturn, 1)) ∧ (decode prog_6_method_4_code 93 = .ok (.iload_n 1, 1)) ∧ (decode prog_6_method_4_code 94 = .ok (.ireturn, 1)) :=
  ⟨by decide +kernel, by decide +kernel, by decide +kernel, by decide +kernel, by decide +kernel, by decide +kernel, by decide +kernel, by decide +kernel, by decide +kernel, by decide +kernel, by decide +kernel, by decide +kernel, by decide +kernel, by decide +kernel, by decide +kernel, by decide +kernel, by decide +kernel, by decide +kernel, by decide +kernel, by decide +kernel, by decide +kernel, by decide +kernel, by decide +kernel, by decide +kernel, by decide +kernel, by decide +kernel, by decide +kernel, by decide +kernel, by decide +kernel, by decide +kernel, by decide +kernel, by decide +kernel, by decide +kernel, by decide +kernel, by decide +kernel, by decide +kernel, by decide +kernel, by decide +kernel, by decide +kernel⟩
end
section
def y_BL_init : MethodName := ⟨"PlaceTests$Blending", "<init>", "()V"⟩
theorem D_BL_init : (decode prog_2_method_1_code 0 = .ok (.aload_n 0, 1)) ∧ (decode prog_2_method_1_code 1 = .ok (.invokespecial 3, 3)) ∧ (decode prog_2_method_1_code 4 = .ok (.aload_n 0, 1)) ∧ (decode prog_2_method_1_code 5 = .ok (.iconst (-1), 1)) ∧ (decode prog_2_method_1_code 6 = .ok (.putfield 9, 3)) ∧ (decode prog_2_method_1_code 9 = .ok (.return_, 1)) :=
  ⟨by decide +kernel, by decide +kernel, by decide +kernel, by decide +kernel, by decide +kernel, by decide +kernel⟩
def y_BL_blended : MethodName := ⟨"PlaceTests$Blending", "blended", "(II)I"⟩
theorem D_BL_blended : (decode prog_2_method_2_code 0 = .ok (.iconst 0, 1)) ∧ (decode prog_2_method_2_code 1 = .ok (.istore_n 3, 1)) ∧ (decode prog_2_method_2_code 2 = .ok (.iconst 0, 1)) ∧ (decode prog_2_method_2_code 3 = .ok (.istore 4, 2)) ∧ (decode prog_2_method_2_code 5 = .ok (.iload 4, 2)) ∧ (decode prog_2_method_2_code 7 = .ok (.bipush 24, 2)) ∧ (decode prog_2_method_2_code 9 = .ok (.if_icmp .gt 23, 3)) ∧ (decode prog_2_method_2_code 12 = .ok (.iload_n 3, 1)) ∧ (decode prog_2_method_2_code 13 = .ok (.aload_n 0, 1)) ∧ (decode prog_2_method_2_code 14 = .ok (.iload_n 1, 1)) ∧ (decode prog_2_method_2_code 15 = .ok (.iload_n 2, 1)) ∧ (decode prog_2_method_2_code 16 = .ok (.iload 4, 2)) ∧ (decode prog_2_method_2_code 18 = .ok (.invokevirtual 17, 3)) ∧ (decode prog_2_method_2_code 21 = .ok (.iload 4, 2)) ∧ (decode prog_2_method_2_code 23 = .ok (.ishl, 1)) ∧ (decode prog_2_method_2_code 24 = .ok (.ior, 1)) ∧ (decode prog_2_method_2_code 25 = .ok (.istore_n 3, 1)) ∧ (decode prog_2_method_2_code 26 = .ok (.iinc 4 8, 3)) ∧ (decode prog_2_method_2_code 29 = .ok (.goto (-24), 3)) ∧ (decode prog_2_method_2_code 32 = .ok (.iload_n 3, 1)) ∧ (decode prog_2_method_2_code 33 = .ok (.ireturn, 1)) :=
  ⟨by decide +kernel, by decide +kernel, by decide +kernel, by decide +kernel, by decide +kernel, by decide +kernel, by decide +kernel, by decide +kernel, by decide +kernel, by decide +kernel, by decide +kernel, by decide +kernel, by decide +kernel, by decide +kernel, by decide +kernel, by decide +kernel, by decide +kernel, by decide +kernel, by decide +kernel, by decide +kernel, by decide +kernel⟩
def y_BL_blendedChannel : MethodName := ⟨"PlaceTests$Blending", "blendedChannel", "(III)I"⟩
theorem D_BL_blendedChannel_0 : (decode prog_2_method_3_code 0 = .ok (.iload_n 3, 1)) ∧ (decode prog_2_method_3_code 1 = .ok (.bipush 24, 2)) ∧ (decode prog_2_method_3_code 3 = .ok (.if_icmp .ne 7, 3)) ∧ (decode prog_2_method_3_code 6 = .ok (.iconst 1, 1)) ∧ (decode prog_2_method_3_code 7 = .ok (.goto 4, 3)) ∧ (decode prog_2_method_3_code 10 = .ok (.iconst 0, 1)) ∧ (decode prog_2_method_3_code 11 = .ok (.istore 4, 2)) ∧ (decode prog_2_method_3_code 13 = .ok (.iload_n 1, 1)) ∧ (decode prog_2_method_3_code 14 = .ok (.iload_n 3, 1)) ∧ (decode prog_2_method_3_code 15 = .ok (.invokestatic 21, 3)) ∧ (decode prog_2_method_3_code 18 = .ok (.istore 5, 2)) ∧ (decode prog_2_method_3_code 20 = .ok (.iload_n 2, 1)) ∧ (decode prog_2_method_3_code 21 = .ok (.iload_n 3, 1)) ∧ (decode prog_2_method_3_code 22 = .ok (.invokestatic 21, 3)) ∧ (decode prog_2_method_3_code 25 = .ok (.istore 6, 2)) ∧ (decode prog_2_method_3_code 27 = .ok (.iload 5, 2)) ∧ (decode prog_2_method_3_code 29 = .ok (.aload_n 0, 1)) ∧ (decode prog_2_method_3_code 30 = .ok (.iload 4, 2)) ∧ (decode prog_2_method_3_code 32 = .ok (.ifCond .eq 10, 3)) ∧ (decode prog_2_method_3_code 35 = .ok (.aload_n 0, 1)) ∧ (decode prog_2_method_3_code 36 = .ok (.getfield 25, 3)) ∧ (decode prog_2_method_3_code 39 = .ok (.goto 7, 3)) ∧ (decode prog_2_method_3_code 42 = .ok (.aload_n 0, 1)) ∧ (decode prog_2_method_3_code 43 = .ok (.getfield 28, 3)) ∧ (decode prog_2_method_3_code 46 = .ok (.iload_n 1, 1)) ∧ (decode prog_2_method_3_code 47 = .ok (.iload_n 2, 1)) ∧ (decode prog_2_method_3_code 48 = .ok (.iload_n 3, 1)) ∧ (decode prog_2_method_3_code 49 = .ok (.invokevirtual 31, 3)) ∧ (decode prog_2_method_3_code 52 = .ok (.imul, 1)) ∧ (decode prog_2_method_3_code 53 = .ok (.istore 7, 2)) ∧ (decode prog_2_method_3_code 55 = .ok (.iload 6, 2)) ∧ (decode prog_2_method_3_code 57 = .ok (.aload_n 0, 1)) ∧ (decode prog_2_method_3_code 58 = .ok (.iload 4, 2)) ∧ (decode prog_2_method_3_code 60 = .ok (.ifCond .eq 10, 3)) ∧ (decode prog_2_method_3_code 63 = .ok (.aload_n 0, 1)) ∧ (decode prog_2_method_3_code 64 = .ok (.getfield 35, 3)) ∧ (decode prog_2_method_3_code 67 = .ok (.goto 7, 3)) ∧ (decode prog_2_method_3_code 70 = .ok (.aload_n 0, 1)) ∧ (decode prog_2_method_3_code 71 = .ok (.getfield 38, 3)) ∧ (decode prog_2_method_3_code 74 = .ok (.iload_n 1, 1)) ∧ (decode prog_2_method_3_code 75 = .ok (.iload_n 2, 1)) ∧ (decode prog_2_method_3_code 76 = .ok (.iload_n 3, 1)) ∧ (decode prog_2_method_3_code 77 = .ok (.invokevirtual 31, 3)) ∧ (decode prog_2_method_3_code 80 = .ok (.imul, 1)) ∧ (decode prog_2_method_3_code 81 = .ok (.istore 8, 2)) ∧ (decode prog_2_method_3_code 83 = .ok (.iload 4, 2)) ∧ (decode prog_2_method_3_code 85 = .ok (.ifCond .eq 10, 3)) ∧ (decode prog_2_method_3_code 88 = .ok (.aload_n 0, 1)) ∧ (decode prog_2_method_3_code 89 = .ok (.getfield 41, 3)) ∧ (decode prog_2_method_3_code 92 = .ok (.goto 7, 3)) ∧ (decode prog_2_method_3_code 95 = .ok (.aload_n 0, 1)) ∧ (decode prog_2_method_3_code 96 = .ok (.getfield 9, 3)) ∧ (decode prog_2_method_3_code 99 = .ok (.tableswitch 64 0 3 #[29, 38, 47, 56], 29)) ∧ (decode prog_2_method_3_code 128 = .ok (.iload 7, 2)) ∧ (decode prog_2_method_3_code 130 = .ok (.iload 8, 2)) ∧ (decode prog_2_method_3_code 132 = .ok (.iadd, 1)) ∧ (decode prog_2_method_3_code 133 = .ok (.invokestatic 44, 3)) ∧ (decode prog_2_method_3_code 136 = .ok (.ireturn, 1)) ∧ (decode prog_2_method_3_code 137 = .ok (.iload 7, 2)) ∧ (decode prog_2_method_3_code 139 = .ok (.iload 8, 2)) :=
  ⟨by decide +kernel, by decide +kernel, by decide +kernel, by decide +kernel, by decide +kernel, by decide +kernel, by decide +kernel, by decide +kernel, by decide +kernel, by decide +kernel, by decide +kernel, by decide +kernel, by decide +kernel, by decide +kernel, by decide +kernel, by decide +kernel, by decide +kernel, by decide +kernel, by decide +kernel, by decide +kernel, by decide +kernel, by decide +kernel, by decide +kernel, by decide +kernel, by decide +kernel, by decide +kernel, by decide +kernel, by decide +kernel, by decide +kernel, by decide +kernel, by decide +kernel, by decide +kernel, by decide +kernel, by decide +kernel, by decide +kernel, by decide +kernel, by decide +kernel, by decide +kernel, by decide +kernel, by decide +kernel, by decide +kernel, by decide +kernel, by decide +kernel, by decide +kernel, by decide +kernel, by decide +kernel, by decide +kernel, by decide +kernel, by decide +kernel, by decide +kernel, by decide +kernel, by decide +kernel, by decide +kernel, by decide +kernel, by decide +kernel, by decide +kernel, by decide +kernel, by decide +kernel, by decide +kernel, by decide +kernel⟩
theorem D_BL_blendedChannel_1 : (decode prog_2_method_3_code 141 = .ok (.isub, 1)) ∧ (decode prog_2_method_3_code 142 = .ok (.invokestatic 44, 3)) ∧ (decode prog_2_method_3_code 145 = .ok (.ireturn, 1)) ∧ (decode prog_2_method_3_code 146 = .ok (.iload 8, 2)) ∧ (decode prog_2_method_3_code 148 = .ok (.iload 7, 2)) ∧ (decode prog_2_method_3_code 150 = .ok (.isub, 1)) ∧ (decode prog_2_method_3_code 151 = .ok (.invokestatic 44, 3)) ∧ (decode prog_2_method_3_code 154 = .ok (.ireturn, 1)) ∧ (decode prog_2_method_3_code 155 = .ok (.iload 5, 2)) ∧ (decode prog_2_method_3_code 157 = .ok (.iload 6, 2)) ∧ (decode prog_2_method_3_code 159 = .ok (.invokestatic 48, 3)) ∧ (decode prog_2_method_3_code 162 = .ok (.ireturn, 1)) ∧ (decode prog_2_method_3_code 163 = .ok (.iload 5, 2)) ∧ (decode prog_2_method_3_code 165 = .ok (.iload 6, 2)) ∧ (decode prog_2_method_3_code 167 = .ok (.invokestatic 53, 3)) ∧ (decode prog_2_method_3_code 170 = .ok (.ireturn, 1)) :=
  ⟨by decide +kernel, by decide +kernel, by decide +kernel, by decide +kernel, by decide +kernel, by decide +kernel, by decide +kernel, by decide +kernel, by decide +kernel, by decide +kernel, by decide +kernel, by decide +kernel, by decide +kernel, by decide +kernel, by decide +kernel, by decide +kernel⟩
def y_BL_factor : MethodName := ⟨"PlaceTests$Blending", "factor", "(IIII)I"⟩
theorem D_BL_factor_0 : (decode prog_2_method_4_code 0 = .ok (.iload_n 2, 1)) ∧ (decode prog_2_method_4_code 1 = .ok (.bipush 24, 2)) ∧ (decode prog_2_method_4_code 3 = .ok (.invokestatic 21, 3)) ∧ (decode prog_2_method_4_code 6 = .ok (.istore 5, 2)) ∧ (decode prog_2_method_4_code 8 = .ok (.iload_n 3, 1)) ∧ (decode prog_2_method_4_code 9 = .ok (.bipush 24, 2)) ∧ (decode prog_2_method_4_code 11 = .ok (.invokestatic 21, 3)) ∧ (decode prog_2_method_4_code 14 = .ok (.istore 6, 2)) ∧ (decode prog_2_method_4_code 16 = .ok (.iload_n 1, 1)) ∧ (decode prog_2_method_4_code 17 = .ok (.tableswitch 204 1 14 #[71, 75, 82, 93, 100, 111, 114, 121, 124, 131, 141, 155, 165, 179], 71)) ∧ (decode prog_2_method_4_code 88 = .ok (.sipush 255, 3)) ∧ (decode prog_2_method_4_code 91 = .ok (.ireturn, 1)) ∧ (decode prog_2_method_4_code 92 = .ok (.iload_n 2, 1)) ∧ (decode prog_2_method_4_code 93 = .ok (.iload 4, 2)) ∧ (decode prog_2_method_4_code 95 = .ok (.invokestatic 21, 3)) ∧ (decode prog_2_method_4_code 98 = .ok (.ireturn, 1)) ∧ (decode prog_2_method_4_code 99 = .ok (.sipush 255, 3)) ∧ (decode prog_2_method_4_code 102 = .ok (.iload_n 2, 1)) ∧ (decode prog_2_method_4_code 103 = .ok (.iload 4, 2)) ∧ (decode prog_2_method_4_code 105 = .ok (.invokestatic 21, 3)) ∧ (decode prog_2_method_4_code 108 = .ok (.isub, 1)) ∧ (decode prog_2_method_4_code 109 = .ok (.ireturn, 1)) ∧ (decode prog_2_method_4_code 110 = .ok (.iload_n 3, 1)) ∧ (decode prog_2_method_4_code 111 = .ok (.iload 4, 2)) ∧ (decode prog_2_method_4_code 113 = .ok (.invokestatic 21, 3)) ∧ (decode prog_2_method_4_code 116 = .ok (.ireturn, 1)) ∧ (decode prog_2_method_4_code 117 = .ok (.sipush 255, 3)) ∧ (decode prog_2_method_4_code 120 = .ok (.iload_n 3, 1)) ∧ (decode prog_2_method_4_code 121 = .ok (.iload 4, 2)) ∧ (decode prog_2_method_4_code 123 = .ok (.invokestatic 21, 3)) ∧ (decode prog_2_method_4_code 126 = .ok (.isub, 1)) ∧ (decode prog_2_method_4_code 127 = .ok (.ireturn, 1)) ∧ (decode prog_2_method_4_code 128 = .ok (.iload 5, 2)) ∧ (decode prog_2_method_4_code 130 = .ok (.ireturn, 1)) ∧ (decode prog_2_method_4_code 131 = .ok (.sipush 255, 3)) ∧ (decode prog_2_method_4_code 134 = .ok (.iload 5, 2)) ∧ (decode prog_2_method_4_code 136 = .ok (.isub, 1)) ∧ (decode prog_2_method_4_code 137 = .ok (.ireturn, 1)) ∧ (decode prog_2_method_4_code 138 = .ok (.iload 6, 2)) ∧ (decode prog_2_method_4_code 140 = .ok (.ireturn, 1)) ∧ (decode prog_2_method_4_code 141 = .ok (.sipush 255, 3)) ∧ (decode prog_2_method_4_code 144 = .ok (.iload 6, 2)) ∧ (decode prog_2_method_4_code 146 = .ok (.isub, 1)) ∧ (decode prog_2_method_4_code 147 = .ok (.ireturn, 1)) ∧ (decode prog_2_method_4_code 148 = .ok (.aload_n 0, 1)) ∧ (decode prog_2_method_4_code 149 = .ok (.getfield 56, 3)) ∧ (decode prog_2_method_4_code 152 = .ok (.iload 4, 2)) ∧ (decode prog_2_method_4_code 154 = .ok (.invokestatic 21, 3)) ∧ (decode prog_2_method_4_code 157 = .ok (.ireturn, 1)) ∧ (decode prog_2_method_4_code 158 = .ok (.sipush 255, 3)) ∧ (decode prog_2_method_4_code 161 = .ok (.aload_n 0, 1)) ∧ (decode prog_2_method_4_code 162 = .ok (.getfield 56, 3)) ∧ (decode prog_2_method_4_code 165 = .ok (.iload 4, 2)) ∧ (decode prog_2_method_4_code 167 = .ok (.invokestatic 21, 3)) ∧ (decode prog_2_method_4_code 170 = .ok (.isub, 1)) ∧ (decode prog_2_method_4_code 171 = .ok (.ireturn, 1)) ∧ (decode prog_2_method_4_code 172 = .ok (.aload_n 0, 1)) ∧ (decode prog_2_method_4_code 173 = .ok (.getfield 56, 3)) ∧ (decode prog_2_method_4_code 176 = .ok (.bipush 24, 2)) ∧ (decode prog_2_method_4_code 178 = .ok (.invokestatic 21, 3)) :=
  ⟨by decide +kernel, by decide +kernel, by decide +kernel, by decide +kernel, by decide +kernel, by decide +kernel, by decide +kernel, by decide +kernel, by decide +kernel, by decide +kernel, by decide +kernel, by decide +kernel, by decide +kernel, by decide +kernel, by decide +kernel, by decide +kernel, by decide +kernel, by decide +kernel, by decide +kernel, by decide +kernel, by decide +kernel, by decide +kernel, by decide +kernel, by decide +kernel, by decide +kernel, by decide +kernel, by decide +kernel, by decide +kernel, by decide +kernel, by decide +kernel, by decide +kernel, by decide +kernel, by decide +kernel, by decide +kernel, by decide +kernel, by decide +kernel, by decide +kernel, by decide +kernel, by decide +kernel, by decide +kernel, by decide +kernel, by decide +kernel, by decide +kernel, by decide +kernel, by decide +kernel, by decide +kernel, by decide +kernel, by decide +kernel, by decide +kernel, by decide +kernel, by decide +kernel, by decide +kernel, by decide +kernel, by decide +kernel, by decide +kernel, by decide +kernel, by decide +kernel, by decide +kernel, by decide +kernel, by decide +kernel⟩
theorem D_BL_factor_1 : (decode prog_2_method_4_code 181 = .ok (.ireturn, 1)) ∧ (decode prog_2_method_4_code 182 = .ok (.sipush 255, 3)) ∧ (decode prog_2_method_4_code 185 = .ok (.aload_n 0, 1)) ∧ (decode prog_2_method_4_code 186 = .ok (.getfield 56, 3)) ∧ (decode prog_2_method_4_code 189 = .ok (.bipush 24, 2)) ∧ (decode prog_2_method_4_code 191 = .ok (.invokestatic 21, 3)) ∧ (decode prog_2_method_4_code 194 = .ok (.isub, 1)) ∧ (decode prog_2_method_4_code 195 = .ok (.ireturn, 1)) ∧ (decode prog_2_method_4_code 196 = .ok (.iload 4, 2)) ∧ (decode prog_2_method_4_code 198 = .ok (.bipush 24, 2)) ∧ (decode prog_2_method_4_code 200 = .ok (.if_icmp .ne 9, 3)) ∧ (decode prog_2_method_4_code 203 = .ok (.sipush 255, 3)) ∧ (decode prog_2_method_4_code 206 = .ok (.goto 14, 3)) ∧ (decode prog_2_method_4_code 209 = .ok (.iload 5, 2)) ∧ (decode prog_2_method_4_code 211 = .ok (.sipush 255, 3)) ∧ (decode prog_2_method_4_code 214 = .ok (.iload 6, 2)) ∧ (decode prog_2_method_4_code 216 = .ok (.isub, 1)) ∧ (decode prog_2_method_4_code 217 = .ok (.invokestatic 48, 3)) ∧ (decode prog_2_method_4_code 220 = .ok (.ireturn, 1)) ∧ (decode prog_2_method_4_code 221 = .ok (.iconst 0, 1)) ∧ (decode prog_2_method_4_code 222 = .ok (.ireturn, 1)) :=
  ⟨by decide +kernel, by decide +kernel, by decide +kernel, by decide +kernel, by decide +kernel, by decide +kernel, by decide +kernel, by decide +kernel, by decide +kernel, by decide +kernel, by decide +kernel, by decide +kernel, by decide +kernel, by decide +kernel, by decide +kernel, by decide +kernel, by decide +kernel, by decide +kernel, by decide +kernel, by decide +kernel, by decide +kernel⟩
def y_BL_byteOfWeighted : MethodName := ⟨"PlaceTests$Blending", "byteOfWeighted", "(I)I"⟩
theorem D_BL_byteOfWeighted : (decode prog_2_method_5_code 0 = .ok (.iload_n 0, 1)) ∧ (decode prog_2_method_5_code 1 = .ok (.iconst 0, 1)) ∧ (decode prog_2_method_5_code 2 = .ok (.invokestatic 53, 3)) ∧ (decode prog_2_method_5_code 5 = .ok (.bipush 127, 2)) ∧ (decode prog_2_method_5_code 7 = .ok (.iadd, 1)) ∧ (decode prog_2_method_5_code 8 = .ok (.sipush 255, 3)) ∧ (decode prog_2_method_5_code 11 = .ok (.idiv, 1)) ∧ (decode prog_2_method_5_code 12 = .ok (.istore_n 1, 1)) ∧ (decode prog_2_method_5_code 13 = .ok (.iload_n 1, 1)) ∧ (decode prog_2_method_5_code 14 = .ok (.sipush 255, 3)) ∧ (decode prog_2_method_5_code 17 = .ok (.invokestatic 48, 3)) ∧ (decode prog_2_method_5_code 20 = .ok (.ireturn, 1)) :=
  ⟨by decide +kernel, by decide +kernel, by decide +kernel, by decide +kernel, by decide +kernel, by decide +kernel, by decide +kernel, by decide +kernel, by decide +kernel, by decide +kernel, by decide +kernel, by decide +kernel⟩
end
section
def y_MO_init : MethodName := ⟨"PlaceTestsModel", "<init>", "()V"⟩
theorem D_MO_init_0 : (decode prog_8_method_1_code 0 = .ok (.aload_n 0, 1)) ∧ (decode prog_8_method_1_code 1 = .ok (.invokespecial 1, 3)) ∧ (decode prog_8_method_1_code 4 = .ok (.aload_n 0, 1)) ∧ (decode prog_8_method_1_code 5 = .ok (.iconst 1, 1)) ∧ (decode prog_8_method_1_code 6 = .ok (.putfield 7, 3)) ∧ (decode prog_8_method_1_code 9 = .ok (.aload_n 0, 1)) ∧ (decode prog_8_method_1_code 10 = .ok (.iconst 1, 1)) ∧ (decode prog_8_method_1_code 11 = .ok (.putfield 13, 3)) ∧ (decode prog_8_method_1_code 14 = .ok (.aload_n 0, 1)) ∧ (decode prog_8_method_1_code 15 = .ok (.sipush 16384, 3)) ∧ (decode prog_8_method_1_code 18 = .ok (.newarray .int, 2)) ∧ (decode prog_8_method_1_code 20 = .ok (.putfield 16, 3)) ∧ (decode prog_8_method_1_code 23 = .ok (.aload_n 0, 1)) ∧ (decode prog_8_method_1_code 24 = .ok (.sipush 4096, 3)) ∧ (decode prog_8_method_1_code 27 = .ok (.newarray .int, 2)) ∧ (decode prog_8_method_1_code 29 = .ok (.putfield 20, 3)) ∧ (decode prog_8_method_1_code 32 = .ok (.aload_n 0, 1)) ∧ (decode prog_8_method_1_code 33 = .ok (.sipush 4096, 3)) ∧ (decode prog_8_method_1_code 36 = .ok (.newarray .int, 2)) ∧ (decode prog_8_method_1_code 38 = .ok (.putfield 23, 3)) ∧ (decode prog_8_method_1_code 41 = .ok (.aload_n 0, 1)) ∧ (decode prog_8_method_1_code 42 = .ok (.iconst 4, 1)) ∧ (decode prog_8_method_1_code 43 = .ok (.newarray .int, 2)) ∧ (decode prog_8_method_1_code 45 = .ok (.putfield 26, 3)) ∧ (decode prog_8_method_1_code 48 = .ok (.aload_n 0, 1)) ∧ (decode prog_8_method_1_code 49 = .ok (.iconst (-1), 1)) ∧ (decode prog_8_method_1_code 50 = .ok (.putfield 29, 3)) ∧ (decode prog_8_method_1_code 53 = .ok (.aload_n 0, 1)) ∧ (decode prog_8_method_1_code 54 = .ok (.bipush 14, 2)) ∧ (decode prog_8_method_1_code 56 = .ok (.newarray .int, 2)) ∧ (decode prog_8_method_1_code 58 = .ok (.putfield 32, 3)) ∧ (decode prog_8_method_1_code 61 = .ok (.aload_n 0, 1)) ∧ (decode prog_8_method_1_code 62 = .ok (.iconst 4, 1)) ∧ (decode prog_8_method_1_code 63 = .ok (.newarray .int, 2)) ∧ (decode prog_8_method_1_code 65 = .ok (.putfield 35, 3)) ∧ (decode prog_8_method_1_code 68 = .ok (.aload_n 0, 1)) ∧ (decode prog_8_method_1_code 69 = .ok (.iconst (-1), 1)) ∧ (decode prog_8_method_1_code 70 = .ok (.putfield 38, 3)) ∧ (decode prog_8_method_1_code 73 = .ok (.aload_n 0, 1)) ∧ (decode prog_8_method_1_code 74 = .ok (.iconst 4, 1)) ∧ (decode prog_8_method_1_code 75 = .ok (.newarray .int, 2)) ∧ (decode prog_8_method_1_code 77 = .ok (.putfield 41, 3)) ∧ (decode prog_8_method_1_code 80 = .ok (.aload_n 0, 1)) ∧ (decode prog_8_method_1_code 81 = .ok (.iconst (-1), 1)) ∧ (decode prog_8_method_1_code 82 = .ok (.putfield 44, 3)) ∧ (decode prog_8_method_1_code 85 = .ok (.aload_n 0, 1)) ∧ (decode prog_8_method_1_code 86 = .ok (.bipush 15, 2)) ∧ (decode prog_8_method_1_code 88 = .ok (.putfield 47, 3)) ∧ (decode prog_8_method_1_code 91 = .ok (.aload_n 0, 1)) ∧ (decode prog_8_method_1_code 92 = .ok (.iconst 4, 1)) ∧ (decode prog_8_method_1_code 93 = .ok (.newarray .int, 2)) ∧ (decode prog_8_method_1_code 95 = .ok (.putfield 50, 3)) ∧ (decode prog_8_method_1_code 98 = .ok (.aload_n 0, 1)) ∧ (decode prog_8_method_1_code 99 = .ok (.iconst 4, 1)) ∧ (decode prog_8_method_1_code 100 = .ok (.newarray .int, 2)) ∧ (decode prog_8_method_1_code 102 = .ok (.putfield 53, 3)) ∧ (decode prog_8_method_1_code 105 = .ok (.aload_n 0, 1)) ∧ (decode prog_8_method_1_code 106 = .ok (.iconst 4, 1)) ∧ (decode prog_8_method_1_code 107 = .ok (.newarray .int, 2)) ∧ (decode prog_8_method_1_code 109 = .ok (.putfield 56, 3)) :=
  ⟨by decide +kernel, by decide +kernel, by decide +kernel, by decide +kernel, by decide +kernel, by decide +kernel, by decide +kernel, by decide +kernel, by decide +kernel, by decide +kernel, by decide +kernel, by decide +kernel, by decide +kernel, by decide +kernel, by decide +kernel, by decide +kernel, by decide +kernel, by decide +kernel, by decide +kernel, by decide +kernel, by decide +kernel, by decide +kernel, by decide +kernel, by decide +kernel, by decide +kernel, by decide +kernel, by decide +kernel, by decide +kernel, by decide +kernel, by decide +kernel, by decide +kernel, by decide +kernel, by decide +kernel, by decide +kernel, by decide +kernel, by decide +kernel, by decide +kernel, by decide +kernel, by decide +kernel, by decide +kernel, by decide +kernel, by decide +kernel, by decide +kernel, by decide +kernel, by decide +kernel, by decide +kernel, by decide +kernel, by decide +kernel, by decide +kernel, by decide +kernel, by decide +kernel, by decide +kernel, by decide +kernel, by decide +kernel, by decide +kernel, by decide +kernel, by decide +kernel, by decide +kernel, by decide +kernel, by decide +kernel⟩
theorem D_MO_init_1 : (decode prog_8_method_1_code 112 = .ok (.aload_n 0, 1)) ∧ (decode prog_8_method_1_code 113 = .ok (.getfield 32, 3)) ∧ (decode prog_8_method_1_code 116 = .ok (.iconst 0, 1)) ∧ (decode prog_8_method_1_code 117 = .ok (.iconst (-1), 1)) ∧ (decode prog_8_method_1_code 118 = .ok (.iastore, 1)) ∧ (decode prog_8_method_1_code 119 = .ok (.aload_n 0, 1)) ∧ (decode prog_8_method_1_code 120 = .ok (.getfield 32, 3)) ∧ (decode prog_8_method_1_code 123 = .ok (.bipush 7, 2)) ∧ (decode prog_8_method_1_code 125 = .ok (.iconst (-1), 1)) ∧ (decode prog_8_method_1_code 126 = .ok (.iastore, 1)) ∧ (decode prog_8_method_1_code 127 = .ok (.return_, 1)) :=
  ⟨by decide +kernel, by decide +kernel, by decide +kernel, by decide +kernel, by decide +kernel, by decide +kernel, by decide +kernel, by decide +kernel, by decide +kernel, by decide +kernel, by decide +kernel⟩
def y_MO_thrown : MethodName := ⟨"PlaceTestsModel", "thrown", "()I"⟩
theorem D_MO_thrown : (decode prog_8_method_2_code 0 = .ok (.aload_n 0, 1)) ∧ (decode prog_8_method_2_code 1 = .ok (.getfield 59, 3)) ∧ (decode prog_8_method_2_code 4 = .ok (.ireturn, 1)) :=
  ⟨by decide +kernel, by decide +kernel, by decide +kernel⟩
def y_MO_frame : MethodName := ⟨"PlaceTestsModel", "frame", "(IIII)V"⟩
theorem D_MO_frame_0 : (decode prog_8_method_5_code 0 = .ok (.aload_n 0, 1)) ∧ (decode prog_8_method_5_code 1 = .ok (.iload_n 3, 1)) ∧ (decode prog_8_method_5_code 2 = .ok (.iconst 1, 1)) ∧ (decode prog_8_method_5_code 3 = .ok (.bipush 64, 2)) ∧ (decode prog_8_method_5_code 5 = .ok (.invokestatic 62, 3)) ∧ (decode prog_8_method_5_code 8 = .ok (.ifCond .eq 36, 3)) ∧ (decode prog_8_method_5_code 11 = .ok (.iload 4, 2)) ∧ (decode prog_8_method_5_code 13 = .ok (.iconst 1, 1)) ∧ (decode prog_8_method_5_code 14 = .ok (.bipush 64, 2)) ∧ (decode prog_8_method_5_code 16 = .ok (.invokestatic 62, 3)) ∧ (decode prog_8_method_5_code 19 = .ok (.ifCond .eq 25, 3)) ∧ (decode prog_8_method_5_code 22 = .ok (.iload_n 1, 1)) ∧ (decode prog_8_method_5_code 23 = .ok (.iconst 0, 1)) ∧ (decode prog_8_method_5_code 24 = .ok (.sipush 1023, 3)) ∧ (decode prog_8_method_5_code 27 = .ok (.invokestatic 62, 3)) ∧ (decode prog_8_method_5_code 30 = .ok (.ifCond .eq 14, 3)) ∧ (decode prog_8_method_5_code 33 = .ok (.iload_n 2, 1)) ∧ (decode prog_8_method_5_code 34 = .ok (.iconst 0, 1)) ∧ (decode prog_8_method_5_code 35 = .ok (.sipush 1023, 3)) ∧ (decode prog_8_method_5_code 38 = .ok (.invokestatic 62, 3)) ∧ (decode prog_8_method_5_code 41 = .ok (.ifCond .ne 7, 3)) ∧ (decode prog_8_method_5_code 44 = .ok (.iconst 1, 1)) ∧ (decode prog_8_method_5_code 45 = .ok (.goto 4, 3)) ∧ (decode prog_8_method_5_code 48 = .ok (.iconst 0, 1)) ∧ (decode prog_8_method_5_code 49 = .ok (.iconst 0, 1)) ∧ (decode prog_8_method_5_code 50 = .ok (.invokevirtual 66, 3)) ∧ (decode prog_8_method_5_code 53 = .ok (.ifCond .eq 4, 3)) ∧ (decode prog_8_method_5_code 56 = .ok (.return_, 1)) ∧ (decode prog_8_method_5_code 57 = .ok (.aload_n 0, 1)) ∧ (decode prog_8_method_5_code 58 = .ok (.iload_n 1, 1)) ∧ (decode prog_8_method_5_code 59 = .ok (.putfield 70, 3)) ∧ (decode prog_8_method_5_code 62 = .ok (.aload_n 0, 1)) ∧ (decode prog_8_method_5_code 63 = .ok (.iload_n 2, 1)) ∧ (decode prog_8_method_5_code 64 = .ok (.putfield 73, 3)) ∧ (decode prog_8_method_5_code 67 = .ok (.aload_n 0, 1)) ∧ (decode prog_8_method_5_code 68 = .ok (.iload_n 3, 1)) ∧ (decode prog_8_method_5_code 69 = .ok (.putfield 7, 3)) ∧ (decode prog_8_method_5_code 72 = .ok (.aload_n 0, 1)) ∧ (decode prog_8_method_5_code 73 = .ok (.iload 4, 2)) ∧ (decode prog_8_method_5_code 75 = .ok (.putfield 13, 3)) ∧ (decode prog_8_method_5_code 78 = .ok (.iconst 0, 1)) ∧ (decode prog_8_method_5_code 79 = .ok (.istore 5, 2)) ∧ (decode prog_8_method_5_code 81 = .ok (.iload 5, 2)) ∧ (decode prog_8_method_5_code 83 = .ok (.sipush 4096, 3)) ∧ (decode prog_8_method_5_code 86 = .ok (.if_icmp .ge 25, 3)) ∧ (decode prog_8_method_5_code 89 = .ok (.aload_n 0, 1)) ∧ (decode prog_8_method_5_code 90 = .ok (.getfield 20, 3)) ∧ (decode prog_8_method_5_code 93 = .ok (.iload 5, 2)) ∧ (decode prog_8_method_5_code 95 = .ok (.iconst 0, 1)) ∧ (decode prog_8_method_5_code 96 = .ok (.iastore, 1)) ∧ (decode prog_8_method_5_code 97 = .ok (.aload_n 0, 1)) ∧ (decode prog_8_method_5_code 98 = .ok (.getfield 23, 3)) ∧ (decode prog_8_method_5_code 101 = .ok (.iload 5, 2)) ∧ (decode prog_8_method_5_code 103 = .ok (.iconst 0, 1)) ∧ (decode prog_8_method_5_code 104 = .ok (.iastore, 1)) ∧ (decode prog_8_method_5_code 105 = .ok (.iinc 5 1, 3)) ∧ (decode prog_8_method_5_code 108 = .ok (.goto (-27), 3)) ∧ (decode prog_8_method_5_code 111 = .ok (.iconst 0, 1)) ∧ (decode prog_8_method_5_code 112 = .ok (.istore 5, 2)) ∧ (decode prog_8_method_5_code 114 = .ok (.iload 5, 2)) :=
  ⟨by decide +kernel, by decide +kernel, by decide +kernel, by decide +kernel, by decide +kernel, by decide +kernel, by decide +kernel, by decide +kernel, by decide +kernel, by decide +kernel, by decide +kernel, by decide +kernel, by decide +kernel, by decide +kernel, by decide +kernel, by decide +kernel, by decide +kernel, by decide +kernel, by decide +kernel, by decide +kernel, by decide +kernel, by decide +kernel, by decide +kernel, by decide +kernel, by decide +kernel, by decide +kernel, by decide +kernel, by decide +kernel, by decide +kernel, by decide +kernel, by decide +kernel, by decide +kernel, by decide +kernel, by decide +kernel, by decide +kernel, by decide +kernel, by decide +kernel, by decide +kernel, by decide +kernel, by decide +kernel, by decide +kernel, by decide +kernel, by decide +kernel, by decide +kernel, by decide +kernel, by decide +kernel, by decide +kernel, by decide +kernel, by decide +kernel, by decide +kernel, by decide +kernel, by decide +kernel, by decide +kernel, by decide +kernel, by decide +kernel, by decide +kernel, by decide +kernel, by decide +kernel, by decide +kernel, by decide +kernel⟩
theorem D_MO_frame_1 : (decode prog_8_method_5_code 116 = .ok (.sipush 16384, 3)) ∧ (decode prog_8_method_5_code 119 = .ok (.if_icmp .ge 17, 3)) ∧ (decode prog_8_method_5_code 122 = .ok (.aload_n 0, 1)) ∧ (decode prog_8_method_5_code 123 = .ok (.getfield 16, 3)) ∧ (decode prog_8_method_5_code 126 = .ok (.iload 5, 2)) ∧ (decode prog_8_method_5_code 128 = .ok (.iconst 0, 1)) ∧ (decode prog_8_method_5_code 129 = .ok (.iastore, 1)) ∧ (decode prog_8_method_5_code 130 = .ok (.iinc 5 1, 3)) ∧ (decode prog_8_method_5_code 133 = .ok (.goto (-19), 3)) ∧ (decode prog_8_method_5_code 136 = .ok (.return_, 1)) :=
  ⟨by decide +kernel, by decide +kernel, by decide +kernel, by decide +kernel, by decide +kernel, by decide +kernel, by decide +kernel, by decide +kernel, by decide +kernel, by decide +kernel⟩
def y_MO_in : MethodName := ⟨"PlaceTestsModel", "in", "(III)Z"⟩
theorem D_MO_in : (decode prog_8_method_4_code 0 = .ok (.iload_n 0, 1)) ∧ (decode prog_8_method_4_code 1 = .ok (.iload_n 1, 1)) ∧ (decode prog_8_method_4_code 2 = .ok (.if_icmp .lt 12, 3)) ∧ (decode prog_8_method_4_code 5 = .ok (.iload_n 0, 1)) ∧ (decode prog_8_method_4_code 6 = .ok (.iload_n 2, 1)) ∧ (decode prog_8_method_4_code 7 = .ok (.if_icmp .gt 7, 3)) ∧ (decode prog_8_method_4_code 10 = .ok (.iconst 1, 1)) ∧ (decode prog_8_method_4_code 11 = .ok (.goto 4, 3)) ∧ (decode prog_8_method_4_code 14 = .ok (.iconst 0, 1)) ∧ (decode prog_8_method_4_code 15 = .ok (.ireturn, 1)) :=
  ⟨by decide +kernel, by decide +kernel, by decide +kernel, by decide +kernel, by decide +kernel, by decide +kernel, by decide +kernel, by decide +kernel, by decide +kernel, by decide +kernel⟩
def y_MO_refuse : MethodName := ⟨"PlaceTestsModel", "refuse", "(ZZ)Z"⟩
theorem D_MO_refuse : (decode prog_8_method_3_code 0 = .ok (.aload_n 0, 1)) ∧ (decode prog_8_method_3_code 1 = .ok (.iload_n 1, 1)) ∧ (decode prog_8_method_3_code 2 = .ok (.ifCond .eq 7, 3)) ∧ (decode prog_8_method_3_code 5 = .ok (.iconst 1, 1)) ∧ (decode prog_8_method_3_code 6 = .ok (.goto 12, 3)) ∧ (decode prog_8_method_3_code 9 = .ok (.iload_n 2, 1)) ∧ (decode prog_8_method_3_code 10 = .ok (.ifCond .eq 7, 3)) ∧ (decode prog_8_method_3_code 13 = .ok (.iconst 2, 1)) ∧ (decode prog_8_method_3_code 14 = .ok (.goto 4, 3)) ∧ (decode prog_8_method_3_code 17 = .ok (.iconst 0, 1)) ∧ (decode prog_8_method_3_code 18 = .ok (.putfield 59, 3)) ∧ (decode prog_8_method_3_code 21 = .ok (.aload_n 0, 1)) ∧ (decode prog_8_method_3_code 22 = .ok (.getfield 59, 3)) ∧ (decode prog_8_method_3_code 25 = .ok (.ifCond .le 7, 3)) ∧ (decode prog_8_method_3_code 28 = .ok (.iconst 1, 1)) ∧ (decode prog_8_method_3_code 29 = .ok (.goto 4, 3)) ∧ (decode prog_8_method_3_code 32 = .ok (.iconst 0, 1)) ∧ (decode prog_8_method_3_code 33 = .ok (.ireturn, 1)) :=
  ⟨by decide +kernel, by decide +kernel, by decide +kernel, by decide +kernel, by decide +kernel, by decide +kernel, by decide +kernel, by decide +kernel, by decide +kernel, by decide +kernel, by decide +kernel, by decide +kernel, by decide +kernel, by decide +kernel, by decide +kernel, by decide +kernel, by decide +kernel, by decide +kernel⟩
def y_MO_scissors : MethodName := ⟨"PlaceTestsModel", "scissors", "(IIII)V"⟩
theorem D_MO_scissors : (decode prog_8_method_6_code 0 = .ok (.aload_n 0, 1)) ∧ (decode prog_8_method_6_code 1 = .ok (.iconst 0, 1)) ∧ (decode prog_8_method_6_code 2 = .ok (.putfield 59, 3)) ∧ (decode prog_8_method_6_code 5 = .ok (.aload_n 0, 1)) ∧ (decode prog_8_method_6_code 6 = .ok (.iload_n 3, 1)) ∧ (decode prog_8_method_6_code 7 = .ok (.iload_n 1, 1)) ∧ (decode prog_8_method_6_code 8 = .ok (.if_icmp .lt 7, 3)) ∧ (decode prog_8_method_6_code 11 = .ok (.iconst 1, 1)) ∧ (decode prog_8_method_6_code 12 = .ok (.goto 4, 3)) ∧ (decode prog_8_method_6_code 15 = .ok (.iconst 0, 1)) ∧ (decode prog_8_method_6_code 16 = .ok (.putfield 76, 3)) ∧ (decode prog_8_method_6_code 19 = .ok (.aload_n 0, 1)) ∧ (decode prog_8_method_6_code 20 = .ok (.getfield 26, 3)) ∧ (decode prog_8_method_6_code 23 = .ok (.iconst 0, 1)) ∧ (decode prog_8_method_6_code 24 = .ok (.iload_n 1, 1)) ∧ (decode prog_8_method_6_code 25 = .ok (.iastore, 1)) ∧ (decode prog_8_method_6_code 26 = .ok (.aload_n 0, 1)) ∧ (decode prog_8_method_6_code 27 = .ok (.getfield 26, 3)) ∧ (decode prog_8_method_6_code 30 = .ok (.iconst 1, 1)) ∧ (decode prog_8_method_6_code 31 = .ok (.iload_n 2, 1)) ∧ (decode prog_8_method_6_code 32 = .ok (.iastore, 1)) ∧ (decode prog_8_method_6_code 33 = .ok (.aload_n 0, 1)) ∧ (decode prog_8_method_6_code 34 = .ok (.getfield 26, 3)) ∧ (decode prog_8_method_6_code 37 = .ok (.iconst 2, 1)) ∧ (decode prog_8_method_6_code 38 = .ok (.iload_n 3, 1)) ∧ (decode prog_8_method_6_code 39 = .ok (.iastore, 1)) ∧ (decode prog_8_method_6_code 40 = .ok (.aload_n 0, 1)) ∧ (decode prog_8_method_6_code 41 = .ok (.getfield 26, 3)) ∧ (decode prog_8_method_6_code 44 = .ok (.iconst 3, 1)) ∧ (decode prog_8_method_6_code 45 = .ok (.iload 4, 2)) ∧ (decode prog_8_method_6_code 47 = .ok (.iastore, 1)) ∧ (decode prog_8_method_6_code 48 = .ok (.return_, 1)) :=
  ⟨by decide +kernel, by decide +kernel, by decide +kernel, by decide +kernel, by decide +kernel, by decide +kernel, by decide +kernel, by decide +kernel, by decide +kernel, by decide +kernel, by decide +kernel, by decide +kernel, by decide +kernel, by decide +kernel, by decide +kernel, by decide +kernel, by decide +kernel, by decide +kernel, by decide +kernel, by decide +kernel, by decide +kernel, by decide +kernel, by decide +kernel, by decide +kernel, by decide +kernel, by decide +kernel, by decide +kernel, by decide +kernel, by decide +kernel, by decide +kernel, by decide +kernel, by decide +kernel⟩
def y_MO_depth : MethodName := ⟨"PlaceTestsModel", "depth", "(IZ)V"⟩
theorem D_MO_depth : (decode prog_8_method_7_code 0 = .ok (.aload_n 0, 1)) ∧ (decode prog_8_method_7_code 1 = .ok (.iload_n 1, 1)) ∧ (decode prog_8_method_7_code 2 = .ok (.iconst (-1), 1)) ∧ (decode prog_8_method_7_code 3 = .ok (.bipush 7, 2)) ∧ (decode prog_8_method_7_code 5 = .ok (.invokestatic 62, 3)) ∧ (decode prog_8_method_7_code 8 = .ok (.ifCond .ne 7, 3)) ∧ (decode prog_8_method_7_code 11 = .ok (.iconst 1, 1)) ∧ (decode prog_8_method_7_code 12 = .ok (.goto 4, 3)) ∧ (decode prog_8_method_7_code 15 = .ok (.iconst 0, 1)) ∧ (decode prog_8_method_7_code 16 = .ok (.iconst 0, 1)) ∧ (decode prog_8_method_7_code 17 = .ok (.invokevirtual 66, 3)) ∧ (decode prog_8_method_7_code 20 = .ok (.ifCond .eq 4, 3)) ∧ (decode prog_8_method_7_code 23 = .ok (.return_, 1)) ∧ (decode prog_8_method_7_code 24 = .ok (.aload_n 0, 1)) ∧ (decode prog_8_method_7_code 25 = .ok (.iload_n 1, 1)) ∧ (decode prog_8_method_7_code 26 = .ok (.putfield 29, 3)) ∧ (decode prog_8_method_7_code 29 = .ok (.aload_n 0, 1)) ∧ (decode prog_8_method_7_code 30 = .ok (.iload_n 2, 1)) ∧ (decode prog_8_method_7_code 31 = .ok (.putfield 80, 3)) ∧ (decode prog_8_method_7_code 34 = .ok (.return_, 1)) :=
  ⟨by decide +kernel, by decide +kernel, by decide +kernel, by decide +kernel, by decide +kernel, by decide +kernel, by decide +kernel, by decide +kernel, by decide +kernel, by decide +kernel, by decide +kernel, by decide +kernel, by decide +kernel, by decide +kernel, by decide +kernel, by decide +kernel, by decide +kernel, by decide +kernel, by decide +kernel, by decide +kernel⟩
def y_MO_stencil : MethodName := ⟨"PlaceTestsModel", "stencil", "(IIIIIIII)V"⟩
theorem D_MO_stencil_0 : (decode prog_8_method_8_code 0 = .ok (.iload_n 1, 1)) ∧ (decode prog_8_method_8_code 1 = .ok (.iconst 0, 1)) ∧ (decode prog_8_method_8_code 2 = .ok (.iconst 1, 1)) ∧ (decode prog_8_method_8_code 3 = .ok (.invokestatic 62, 3)) ∧ (decode prog_8_method_8_code 6 = .ok (.ifCond .eq 90, 3)) ∧ (decode prog_8_method_8_code 9 = .ok (.iload_n 2, 1)) ∧ (decode prog_8_method_8_code 10 = .ok (.iconst (-1), 1)) ∧ (decode prog_8_method_8_code 11 = .ok (.if_icmp .eq 81, 3)) ∧ (decode prog_8_method_8_code 14 = .ok (.iload_n 2, 1)) ∧ (decode prog_8_method_8_code 15 = .ok (.iconst 0, 1)) ∧ (decode prog_8_method_8_code 16 = .ok (.bipush 7, 2)) ∧ (decode prog_8_method_8_code 18 = .ok (.invokestatic 62, 3)) ∧ (decode prog_8_method_8_code 21 = .ok (.ifCond .eq 75, 3)) ∧ (decode prog_8_method_8_code 24 = .ok (.iload_n 3, 1)) ∧ (decode prog_8_method_8_code 25 = .ok (.iconst 0, 1)) ∧ (decode prog_8_method_8_code 26 = .ok (.sipush 255, 3)) ∧ (decode prog_8_method_8_code 29 = .ok (.invokestatic 62, 3)) ∧ (decode prog_8_method_8_code 32 = .ok (.ifCond .eq 64, 3)) ∧ (decode prog_8_method_8_code 35 = .ok (.iload 4, 2)) ∧ (decode prog_8_method_8_code 37 = .ok (.iconst 0, 1)) ∧ (decode prog_8_method_8_code 38 = .ok (.sipush 255, 3)) ∧ (decode prog_8_method_8_code 41 = .ok (.invokestatic 62, 3)) ∧ (decode prog_8_method_8_code 44 = .ok (.ifCond .eq 52, 3)) ∧ (decode prog_8_method_8_code 47 = .ok (.iload 5, 2)) ∧ (decode prog_8_method_8_code 49 = .ok (.iconst 0, 1)) ∧ (decode prog_8_method_8_code 50 = .ok (.sipush 255, 3)) ∧ (decode prog_8_method_8_code 53 = .ok (.invokestatic 62, 3)) ∧ (decode prog_8_method_8_code 56 = .ok (.ifCond .eq 40, 3)) ∧ (decode prog_8_method_8_code 59 = .ok (.iload 6, 2)) ∧ (decode prog_8_method_8_code 61 = .ok (.iconst 0, 1)) ∧ (decode prog_8_method_8_code 62 = .ok (.bipush 7, 2)) ∧ (decode prog_8_method_8_code 64 = .ok (.invokestatic 62, 3)) ∧ (decode prog_8_method_8_code 67 = .ok (.ifCond .eq 29, 3)) ∧ (decode prog_8_method_8_code 70 = .ok (.iload 7, 2)) ∧ (decode prog_8_method_8_code 72 = .ok (.iconst 0, 1)) ∧ (decode prog_8_method_8_code 73 = .ok (.bipush 7, 2)) ∧ (decode prog_8_method_8_code 75 = .ok (.invokestatic 62, 3)) ∧ (decode prog_8_method_8_code 78 = .ok (.ifCond .eq 18, 3)) ∧ (decode prog_8_method_8_code 81 = .ok (.iload 8, 2)) ∧ (decode prog_8_method_8_code 83 = .ok (.iconst 0, 1)) ∧ (decode prog_8_method_8_code 84 = .ok (.bipush 7, 2)) ∧ (decode prog_8_method_8_code 86 = .ok (.invokestatic 62, 3)) ∧ (decode prog_8_method_8_code 89 = .ok (.ifCond .eq 7, 3)) ∧ (decode prog_8_method_8_code 92 = .ok (.iconst 1, 1)) ∧ (decode prog_8_method_8_code 93 = .ok (.goto 4, 3)) ∧ (decode prog_8_method_8_code 96 = .ok (.iconst 0, 1)) ∧ (decode prog_8_method_8_code 97 = .ok (.istore 9, 2)) ∧ (decode prog_8_method_8_code 99 = .ok (.aload_n 0, 1)) ∧ (decode prog_8_method_8_code 100 = .ok (.iload 9, 2)) ∧ (decode prog_8_method_8_code 102 = .ok (.ifCond .ne 7, 3)) ∧ (decode prog_8_method_8_code 105 = .ok (.iconst 1, 1)) ∧ (decode prog_8_method_8_code 106 = .ok (.goto 4, 3)) ∧ (decode prog_8_method_8_code 109 = .ok (.iconst 0, 1)) ∧ (decode prog_8_method_8_code 110 = .ok (.iconst 0, 1)) ∧ (decode prog_8_method_8_code 111 = .ok (.invokevirtual 66, 3)) ∧ (decode prog_8_method_8_code 114 = .ok (.ifCond .eq 4, 3)) ∧ (decode prog_8_method_8_code 117 = .ok (.return_, 1)) ∧ (decode prog_8_method_8_code 118 = .ok (.bipush 7, 2)) ∧ (decode prog_8_method_8_code 120 = .ok (.iload_n 1, 1)) ∧ (decode prog_8_method_8_code 121 = .ok (.imul, 1)) :=
  ⟨by decide +kernel, by decide +kernel, by decide +kernel, by decide +kernel, by decide +kernel, by decide +kernel, by decide +kernel, by decide +kernel, by decide +kernel, by decide +kernel, by decide +kernel, by decide +kernel, by decide +kernel, by decide +kernel, by decide +kernel, by decide +kernel, by decide +kernel, by decide +kernel, by decide +kernel, by decide +kernel, by decide +kernel, by decide +kernel, by decide +kernel, by decide +kernel, by decide +kernel, by decide +kernel, by decide +kernel, by decide +kernel, by decide +kernel, by decide +kernel, by decide +kernel, by decide +kernel, by decide +kernel, by decide +kernel, by decide +kernel, by decide +kernel, by decide +kernel, by decide +kernel, by decide +kernel, by decide +kernel, by decide +kernel, by decide +kernel, by decide +kernel, by decide +kernel, by decide +kernel, by decide +kernel, by decide +kernel, by decide +kernel, by decide +kernel, by decide +kernel, by decide +kernel, by decide +kernel, by decide +kernel, by decide +kernel, by decide +kernel, by decide +kernel, by decide +kernel, by decide +kernel, by decide +kernel, by decide +kernel⟩
theorem D_MO_stencil_1 : (decode prog_8_method_8_code 122 = .ok (.istore 10, 2)) ∧ (decode prog_8_method_8_code 124 = .ok (.aload_n 0, 1)) ∧ (decode prog_8_method_8_code 125 = .ok (.getfield 32, 3)) ∧ (decode prog_8_method_8_code 128 = .ok (.iload 10, 2)) ∧ (decode prog_8_method_8_code 130 = .ok (.iload_n 2, 1)) ∧ (decode prog_8_method_8_code 131 = .ok (.iastore, 1)) ∧ (decode prog_8_method_8_code 132 = .ok (.aload_n 0, 1)) ∧ (decode prog_8_method_8_code 133 = .ok (.getfield 32, 3)) ∧ (decode prog_8_method_8_code 136 = .ok (.iload 10, 2)) ∧ (decode prog_8_method_8_code 138 = .ok (.iconst 1, 1)) ∧ (decode prog_8_method_8_code 139 = .ok (.iadd, 1)) ∧ (decode prog_8_method_8_code 140 = .ok (.iload_n 3, 1)) ∧ (decode prog_8_method_8_code 141 = .ok (.iastore, 1)) ∧ (decode prog_8_method_8_code 142 = .ok (.aload_n 0, 1)) ∧ (decode prog_8_method_8_code 143 = .ok (.getfield 32, 3)) ∧ (decode prog_8_method_8_code 146 = .ok (.iload 10, 2)) ∧ (decode prog_8_method_8_code 148 = .ok (.iconst 2, 1)) ∧ (decode prog_8_method_8_code 149 = .ok (.iadd, 1)) ∧ (decode prog_8_method_8_code 150 = .ok (.iload 4, 2)) ∧ (decode prog_8_method_8_code 152 = .ok (.iastore, 1)) ∧ (decode prog_8_method_8_code 153 = .ok (.aload_n 0, 1)) ∧ (decode prog_8_method_8_code 154 = .ok (.getfield 32, 3)) ∧ (decode prog_8_method_8_code 157 = .ok (.iload 10, 2)) ∧ (decode prog_8_method_8_code 159 = .ok (.iconst 3, 1)) ∧ (decode prog_8_method_8_code 160 = .ok (.iadd, 1)) ∧ (decode prog_8_method_8_code 161 = .ok (.iload 5, 2)) ∧ (decode prog_8_method_8_code 163 = .ok (.iastore, 1)) ∧ (decode prog_8_method_8_code 164 = .ok (.aload_n 0, 1)) ∧ (decode prog_8_method_8_code 165 = .ok (.getfield 32, 3)) ∧ (decode prog_8_method_8_code 168 = .ok (.iload 10, 2)) ∧ (decode prog_8_method_8_code 170 = .ok (.iconst 4, 1)) ∧ (decode prog_8_method_8_code 171 = .ok (.iadd, 1)) ∧ (decode prog_8_method_8_code 172 = .ok (.iload 6, 2)) ∧ (decode prog_8_method_8_code 174 = .ok (.iastore, 1)) ∧ (decode prog_8_method_8_code 175 = .ok (.aload_n 0, 1)) ∧ (decode prog_8_method_8_code 176 = .ok (.getfield 32, 3)) ∧ (decode prog_8_method_8_code 179 = .ok (.iload 10, 2)) ∧ (decode prog_8_method_8_code 181 = .ok (.iconst 5, 1)) ∧ (decode prog_8_method_8_code 182 = .ok (.iadd, 1)) ∧ (decode prog_8_method_8_code 183 = .ok (.iload 7, 2)) ∧ (decode prog_8_method_8_code 185 = .ok (.iastore, 1)) ∧ (decode prog_8_method_8_code 186 = .ok (.aload_n 0, 1)) ∧ (decode prog_8_method_8_code 187 = .ok (.getfield 32, 3)) ∧ (decode prog_8_method_8_code 190 = .ok (.iload 10, 2)) ∧ (decode prog_8_method_8_code 192 = .ok (.bipush 6, 2)) ∧ (decode prog_8_method_8_code 194 = .ok (.iadd, 1)) ∧ (decode prog_8_method_8_code 195 = .ok (.iload 8, 2)) ∧ (decode prog_8_method_8_code 197 = .ok (.iastore, 1)) ∧ (decode prog_8_method_8_code 198 = .ok (.return_, 1)) :=
  ⟨by decide +kernel, by decide +kernel, by decide +kernel, by decide +kernel, by decide +kernel, by decide +kernel, by decide +kernel, by decide +kernel, by decide +kernel, by decide +kernel, by decide +kernel, by decide +kernel, by decide +kernel, by decide +kernel, by decide +kernel, by decide +kernel, by decide +kernel, by decide +kernel, by decide +kernel, by decide +kernel, by decide +kernel, by decide +kernel, by decide +kernel, by decide +kernel, by decide +kernel, by decide +kernel, by decide +kernel, by decide +kernel, by decide +kernel, by decide +kernel, by decide +kernel, by decide +kernel, by decide +kernel, by decide +kernel, by decide +kernel, by decide +kernel, by decide +kernel, by decide +kernel, by decide +kernel, by decide +kernel, by decide +kernel, by decide +kernel, by decide +kernel, by decide +kernel, by decide +kernel, by decide +kernel, by decide +kernel, by decide +kernel, by decide +kernel⟩
def y_MO_blend : MethodName := ⟨"PlaceTestsModel", "blend", "(IIIIII)V"⟩
theorem D_MO_blend_0 : (decode prog_8_method_9_code 0 = .ok (.iload 5, 2)) ∧ (decode prog_8_method_9_code 2 = .ok (.iconst (-1), 1)) ∧ (decode prog_8_method_9_code 3 = .ok (.if_icmp .eq 64, 3)) ∧ (decode prog_8_method_9_code 6 = .ok (.iload_n 1, 1)) ∧ (decode prog_8_method_9_code 7 = .ok (.iconst 0, 1)) ∧ (decode prog_8_method_9_code 8 = .ok (.bipush 14, 2)) ∧ (decode prog_8_method_9_code 10 = .ok (.invokestatic 62, 3)) ∧ (decode prog_8_method_9_code 13 = .ok (.ifCond .eq 58, 3)) ∧ (decode prog_8_method_9_code 16 = .ok (.iload_n 2, 1)) ∧ (decode prog_8_method_9_code 17 = .ok (.iconst 0, 1)) ∧ (decode prog_8_method_9_code 18 = .ok (.bipush 14, 2)) ∧ (decode prog_8_method_9_code 20 = .ok (.invokestatic 62, 3)) ∧ (decode prog_8_method_9_code 23 = .ok (.ifCond .eq 48, 3)) ∧ (decode prog_8_method_9_code 26 = .ok (.iload_n 3, 1)) ∧ (decode prog_8_method_9_code 27 = .ok (.iconst 0, 1)) ∧ (decode prog_8_method_9_code 28 = .ok (.bipush 14, 2)) ∧ (decode prog_8_method_9_code 30 = .ok (.invokestatic 62, 3)) ∧ (decode prog_8_method_9_code 33 = .ok (.ifCond .eq 38, 3)) ∧ (decode prog_8_method_9_code 36 = .ok (.iload 4, 2)) ∧ (decode prog_8_method_9_code 38 = .ok (.iconst 0, 1)) ∧ (decode prog_8_method_9_code 39 = .ok (.bipush 14, 2)) ∧ (decode prog_8_method_9_code 41 = .ok (.invokestatic 62, 3)) ∧ (decode prog_8_method_9_code 44 = .ok (.ifCond .eq 27, 3)) ∧ (decode prog_8_method_9_code 47 = .ok (.iload 5, 2)) ∧ (decode prog_8_method_9_code 49 = .ok (.iconst 0, 1)) ∧ (decode prog_8_method_9_code 50 = .ok (.iconst 4, 1)) ∧ (decode prog_8_method_9_code 51 = .ok (.invokestatic 62, 3)) ∧ (decode prog_8_method_9_code 54 = .ok (.ifCond .eq 17, 3)) ∧ (decode prog_8_method_9_code 57 = .ok (.iload 6, 2)) ∧ (decode prog_8_method_9_code 59 = .ok (.iconst 0, 1)) ∧ (decode prog_8_method_9_code 60 = .ok (.iconst 4, 1)) ∧ (decode prog_8_method_9_code 61 = .ok (.invokestatic 62, 3)) ∧ (decode prog_8_method_9_code 64 = .ok (.ifCond .eq 7, 3)) ∧ (decode prog_8_method_9_code 67 = .ok (.iconst 1, 1)) ∧ (decode prog_8_method_9_code 68 = .ok (.goto 4, 3)) ∧ (decode prog_8_method_9_code 71 = .ok (.iconst 0, 1)) ∧ (decode prog_8_method_9_code 72 = .ok (.istore 7, 2)) ∧ (decode prog_8_method_9_code 74 = .ok (.aload_n 0, 1)) ∧ (decode prog_8_method_9_code 75 = .ok (.iload 7, 2)) ∧ (decode prog_8_method_9_code 77 = .ok (.ifCond .ne 7, 3)) ∧ (decode prog_8_method_9_code 80 = .ok (.iconst 1, 1)) ∧ (decode prog_8_method_9_code 81 = .ok (.goto 4, 3)) ∧ (decode prog_8_method_9_code 84 = .ok (.iconst 0, 1)) ∧ (decode prog_8_method_9_code 85 = .ok (.iconst 0, 1)) ∧ (decode prog_8_method_9_code 86 = .ok (.invokevirtual 66, 3)) ∧ (decode prog_8_method_9_code 89 = .ok (.ifCond .eq 4, 3)) ∧ (decode prog_8_method_9_code 92 = .ok (.return_, 1)) ∧ (decode prog_8_method_9_code 93 = .ok (.aload_n 0, 1)) ∧ (decode prog_8_method_9_code 94 = .ok (.getfield 35, 3)) ∧ (decode prog_8_method_9_code 97 = .ok (.iconst 0, 1)) ∧ (decode prog_8_method_9_code 98 = .ok (.iload_n 1, 1)) ∧ (decode prog_8_method_9_code 99 = .ok (.iastore, 1)) ∧ (decode prog_8_method_9_code 100 = .ok (.aload_n 0, 1)) ∧ (decode prog_8_method_9_code 101 = .ok (.getfield 35, 3)) ∧ (decode prog_8_method_9_code 104 = .ok (.iconst 1, 1)) ∧ (decode prog_8_method_9_code 105 = .ok (.iload_n 2, 1)) ∧ (decode prog_8_method_9_code 106 = .ok (.iastore, 1)) ∧ (decode prog_8_method_9_code 107 = .ok (.aload_n 0, 1)) ∧ (decode prog_8_method_9_code 108 = .ok (.getfield 35, 3)) ∧ (decode prog_8_method_9_code 111 = .ok (.iconst 2, 1)) :=
  ⟨by decide +kernel, by decide +kernel, by decide +kernel, by decide +kernel, by decide +kernel, by decide +kernel, by decide +kernel, by decide +kernel, by decide +kernel, by decide +kernel, by decide +kernel, by decide +kernel, by decide +kernel, by decide +kernel, by decide +kernel, by decide +kernel, by decide +kernel, by decide +kernel, by decide +kernel, by decide +kernel, by decide +kernel, by decide +kernel, by decide +kernel, by decide +kernel, by decide +kernel, by decide +kernel, by decide +kernel, by decide +kernel, by decide +kernel, by decide +kernel, by decide +kernel, by decide +kernel, by decide +kernel, by decide +kernel, by decide +kernel, by decide +kernel, by decide +kernel, by decide +kernel, by decide +kernel, by decide +kernel, by decide +kernel, by decide +kernel, by decide +kernel, by decide +kernel, by decide +kernel, by decide +kernel, by decide +kernel, by decide +kernel, by decide +kernel, by decide +kernel, by decide +kernel, by decide +kernel, by decide +kernel, by decide +kernel, by decide +kernel, by decide +kernel, by decide +kernel, by decide +kernel, by decide +kernel, by decide +kernel⟩
theorem D_MO_blend_1 : (decode prog_8_method_9_code 112 = .ok (.iload_n 3, 1)) ∧ (decode prog_8_method_9_code 113 = .ok (.iastore, 1)) ∧ (decode prog_8_method_9_code 114 = .ok (.aload_n 0, 1)) ∧ (decode prog_8_method_9_code 115 = .ok (.getfield 35, 3)) ∧ (decode prog_8_method_9_code 118 = .ok (.iconst 3, 1)) ∧ (decode prog_8_method_9_code 119 = .ok (.iload 4, 2)) ∧ (decode prog_8_method_9_code 121 = .ok (.iastore, 1)) ∧ (decode prog_8_method_9_code 122 = .ok (.aload_n 0, 1)) ∧ (decode prog_8_method_9_code 123 = .ok (.iload 5, 2)) ∧ (decode prog_8_method_9_code 125 = .ok (.putfield 38, 3)) ∧ (decode prog_8_method_9_code 128 = .ok (.aload_n 0, 1)) ∧ (decode prog_8_method_9_code 129 = .ok (.iload 6, 2)) ∧ (decode prog_8_method_9_code 131 = .ok (.putfield 83, 3)) ∧ (decode prog_8_method_9_code 134 = .ok (.return_, 1)) :=
  ⟨by decide +kernel, by decide +kernel, by decide +kernel, by decide +kernel, by decide +kernel, by decide +kernel, by decide +kernel, by decide +kernel, by decide +kernel, by decide +kernel, by decide +kernel, by decide +kernel, by decide +kernel, by decide +kernel⟩
def y_MO_constant : MethodName := ⟨"PlaceTestsModel", "constant", "(I)V"⟩
theorem D_MO_constant : (decode prog_8_method_10_code 0 = .ok (.aload_n 0, 1)) ∧ (decode prog_8_method_10_code 1 = .ok (.iconst 0, 1)) ∧ (decode prog_8_method_10_code 2 = .ok (.putfield 59, 3)) ∧ (decode prog_8_method_10_code 5 = .ok (.iconst 0, 1)) ∧ (decode prog_8_method_10_code 6 = .ok (.istore_n 2, 1)) ∧ (decode prog_8_method_10_code 7 = .ok (.iload_n 2, 1)) ∧ (decode prog_8_method_10_code 8 = .ok (.iconst 4, 1)) ∧ (decode prog_8_method_10_code 9 = .ok (.if_icmp .ge 25, 3)) ∧ (decode prog_8_method_10_code 12 = .ok (.aload_n 0, 1)) ∧ (decode prog_8_method_10_code 13 = .ok (.getfield 41, 3)) ∧ (decode prog_8_method_10_code 16 = .ok (.iload_n 2, 1)) ∧ (decode prog_8_method_10_code 17 = .ok (.iload_n 1, 1)) ∧ (decode prog_8_method_10_code 18 = .ok (.bipush 8, 2)) ∧ (decode prog_8_method_10_code 20 = .ok (.iload_n 2, 1)) ∧ (decode prog_8_method_10_code 21 = .ok (.imul, 1)) ∧ (decode prog_8_method_10_code 22 = .ok (.ishr, 1)) ∧ (decode prog_8_method_10_code 23 = .ok (.sipush 255, 3)) ∧ (decode prog_8_method_10_code 26 = .ok (.iand, 1)) ∧ (decode prog_8_method_10_code 27 = .ok (.iastore, 1)) ∧ (decode prog_8_method_10_code 28 = .ok (.iinc 2 1, 3)) ∧ (decode prog_8_method_10_code 31 = .ok (.goto (-24), 3)) ∧ (decode prog_8_method_10_code 34 = .ok (.return_, 1)) :=
  ⟨by decide +kernel, by decide +kernel, by decide +kernel, by decide +kernel, by decide +kernel, by decide +kernel, by decide +kernel, by decide +kernel, by decide +kernel, by decide +kernel, by decide +kernel, by decide +kernel, by decide +kernel, by decide +kernel, by decide +kernel, by decide +kernel, by decide +kernel, by decide +kernel, by decide +kernel, by decide +kernel, by decide +kernel, by decide +kernel⟩
def y_MO_logic : MethodName := ⟨"PlaceTestsModel", "logic", "(I)V"⟩
theorem D_MO_logic : (decode prog_8_method_11_code 0 = .ok (.aload_n 0, 1)) ∧ (decode prog_8_method_11_code 1 = .ok (.iload_n 1, 1)) ∧ (decode prog_8_method_11_code 2 = .ok (.iconst (-1), 1)) ∧ (decode prog_8_method_11_code 3 = .ok (.bipush 15, 2)) ∧ (decode prog_8_method_11_code 5 = .ok (.invokestatic 62, 3)) ∧ (decode prog_8_method_11_code 8 = .ok (.ifCond .ne 7, 3)) ∧ (decode prog_8_method_11_code 11 = .ok (.iconst 1, 1)) ∧ (decode prog_8_method_11_code 12 = .ok (.goto 4, 3)) ∧ (decode prog_8_method_11_code 15 = .ok (.iconst 0, 1)) ∧ (decode prog_8_method_11_code 16 = .ok (.iconst 0, 1)) ∧ (decode prog_8_method_11_code 17 = .ok (.invokevirtual 66, 3)) ∧ (decode prog_8_method_11_code 20 = .ok (.ifCond .ne 8, 3)) ∧ (decode prog_8_method_11_code 23 = .ok (.aload_n 0, 1)) ∧ (decode prog_8_method_11_code 24 = .ok (.iload_n 1, 1)) ∧ (decode prog_8_method_11_code 25 = .ok (.putfield 44, 3)) ∧ (decode prog_8_method_11_code 28 = .ok (.return_, 1)) :=
  ⟨by decide +kernel, by decide +kernel, by decide +kernel, by decide +kernel, by decide +kernel, by decide +kernel, by decide +kernel, by decide +kernel, by decide +kernel, by decide +kernel, by decide +kernel, by decide +kernel, by decide +kernel, by decide +kernel, by decide +kernel, by decide +kernel⟩
def y_MO_mask : MethodName := ⟨"PlaceTestsModel", "mask", "(I)V"⟩
theorem D_MO_mask : (decode prog_8_method_12_code 0 = .ok (.aload_n 0, 1)) ∧ (decode prog_8_method_12_code 1 = .ok (.iload_n 1, 1)) ∧ (decode prog_8_method_12_code 2 = .ok (.iconst 0, 1)) ∧ (decode prog_8_method_12_code 3 = .ok (.bipush 15, 2)) ∧ (decode prog_8_method_12_code 5 = .ok (.invokestatic 62, 3)) ∧ (decode prog_8_method_12_code 8 = .ok (.ifCond .ne 7, 3)) ∧ (decode prog_8_method_12_code 11 = .ok (.iconst 1, 1)) ∧ (decode prog_8_method_12_code 12 = .ok (.goto 4, 3)) ∧ (decode prog_8_method_12_code 15 = .ok (.iconst 0, 1)) ∧ (decode prog_8_method_12_code 16 = .ok (.iconst 0, 1)) ∧ (decode prog_8_method_12_code 17 = .ok (.invokevirtual 66, 3)) ∧ (decode prog_8_method_12_code 20 = .ok (.ifCond .ne 8, 3)) ∧ (decode prog_8_method_12_code 23 = .ok (.aload_n 0, 1)) ∧ (decode prog_8_method_12_code 24 = .ok (.iload_n 1, 1)) ∧ (decode prog_8_method_12_code 25 = .ok (.putfield 47, 3)) ∧ (decode prog_8_method_12_code 28 = .ok (.return_, 1)) :=
  ⟨by decide +kernel, by decide +kernel, by decide +kernel, by decide +kernel, by decide +kernel, by decide +kernel, by decide +kernel, by decide +kernel, by decide +kernel, by decide +kernel, by decide +kernel, by decide +kernel, by decide +kernel, by decide +kernel, by decide +kernel, by decide +kernel⟩
def y_MO_clear : MethodName := ⟨"PlaceTestsModel", "clear", "(IIII)I"⟩
theorem D_MO_clear_0 : (decode prog_8_method_17_code 0 = .ok (.aload_n 0, 1)) ∧ (decode prog_8_method_17_code 1 = .ok (.iload_n 1, 1)) ∧ (decode prog_8_method_17_code 2 = .ok (.iconst 0, 1)) ∧ (decode prog_8_method_17_code 3 = .ok (.bipush 7, 2)) ∧ (decode prog_8_method_17_code 5 = .ok (.invokestatic 62, 3)) ∧ (decode prog_8_method_17_code 8 = .ok (.ifCond .eq 25, 3)) ∧ (decode prog_8_method_17_code 11 = .ok (.iload_n 3, 1)) ∧ (decode prog_8_method_17_code 12 = .ok (.iconst 0, 1)) ∧ (decode prog_8_method_17_code 13 = .ok (.ldc 90, 2)) ∧ (decode prog_8_method_17_code 15 = .ok (.invokestatic 62, 3)) ∧ (decode prog_8_method_17_code 18 = .ok (.ifCond .eq 15, 3)) ∧ (decode prog_8_method_17_code 21 = .ok (.iload 4, 2)) ∧ (decode prog_8_method_17_code 23 = .ok (.iconst 0, 1)) ∧ (decode prog_8_method_17_code 24 = .ok (.sipush 255, 3)) ∧ (decode prog_8_method_17_code 27 = .ok (.invokestatic 62, 3)) ∧ (decode prog_8_method_17_code 30 = .ok (.ifCond .ne 7, 3)) ∧ (decode prog_8_method_17_code 33 = .ok (.iconst 1, 1)) ∧ (decode prog_8_method_17_code 34 = .ok (.goto 4, 3)) ∧ (decode prog_8_method_17_code 37 = .ok (.iconst 0, 1)) ∧ (decode prog_8_method_17_code 38 = .ok (.iconst 0, 1)) ∧ (decode prog_8_method_17_code 39 = .ok (.invokevirtual 66, 3)) ∧ (decode prog_8_method_17_code 42 = .ok (.ifCond .eq 5, 3)) ∧ (decode prog_8_method_17_code 45 = .ok (.iconst 0, 1)) ∧ (decode prog_8_method_17_code 46 = .ok (.ireturn, 1)) ∧ (decode prog_8_method_17_code 47 = .ok (.iconst 0, 1)) ∧ (decode prog_8_method_17_code 48 = .ok (.istore 5, 2)) ∧ (decode prog_8_method_17_code 50 = .ok (.aload_n 0, 1)) ∧ (decode prog_8_method_17_code 51 = .ok (.getfield 73, 3)) ∧ (decode prog_8_method_17_code 54 = .ok (.istore 6, 2)) ∧ (decode prog_8_method_17_code 56 = .ok (.iload 6, 2)) ∧ (decode prog_8_method_17_code 58 = .ok (.aload_n 0, 1)) ∧ (decode prog_8_method_17_code 59 = .ok (.getfield 73, 3)) ∧ (decode prog_8_method_17_code 62 = .ok (.aload_n 0, 1)) ∧ (decode prog_8_method_17_code 63 = .ok (.getfield 13, 3)) ∧ (decode prog_8_method_17_code 66 = .ok (.iadd, 1)) ∧ (decode prog_8_method_17_code 67 = .ok (.if_icmp .ge 224, 3)) ∧ (decode prog_8_method_17_code 70 = .ok (.aload_n 0, 1)) ∧ (decode prog_8_method_17_code 71 = .ok (.getfield 70, 3)) ∧ (decode prog_8_method_17_code 74 = .ok (.istore 7, 2)) ∧ (decode prog_8_method_17_code 76 = .ok (.iload 7, 2)) ∧ (decode prog_8_method_17_code 78 = .ok (.aload_n 0, 1)) ∧ (decode prog_8_method_17_code 79 = .ok (.getfield 70, 3)) ∧ (decode prog_8_method_17_code 82 = .ok (.aload_n 0, 1)) ∧ (decode prog_8_method_17_code 83 = .ok (.getfield 7, 3)) ∧ (decode prog_8_method_17_code 86 = .ok (.iadd, 1)) ∧ (decode prog_8_method_17_code 87 = .ok (.if_icmp .ge 198, 3)) ∧ (decode prog_8_method_17_code 90 = .ok (.aload_n 0, 1)) ∧ (decode prog_8_method_17_code 91 = .ok (.iload 7, 2)) ∧ (decode prog_8_method_17_code 93 = .ok (.iload 6, 2)) ∧ (decode prog_8_method_17_code 95 = .ok (.invokevirtual 91, 3)) ∧ (decode prog_8_method_17_code 98 = .ok (.ifCond .ne 6, 3)) ∧ (decode prog_8_method_17_code 101 = .ok (.goto 178, 3)) ∧ (decode prog_8_method_17_code 104 = .ok (.iinc 5 1, 3)) ∧ (decode prog_8_method_17_code 107 = .ok (.aload_n 0, 1)) ∧ (decode prog_8_method_17_code 108 = .ok (.iload 7, 2)) ∧ (decode prog_8_method_17_code 110 = .ok (.iload 6, 2)) ∧ (decode prog_8_method_17_code 112 = .ok (.invokevirtual 94, 3)) ∧ (decode prog_8_method_17_code 115 = .ok (.istore 8, 2)) ∧ (decode prog_8_method_17_code 117 = .ok (.iconst 0, 1)) ∧ (decode prog_8_method_17_code 118 = .ok (.istore 9, 2)) :=
  ⟨by decide +kernel, by decide +kernel, by decide +kernel, by decide +kernel, by decide +kernel, by decide +kernel, by decide +kernel, by decide +kernel, by decide +kernel, by decide +kernel, by decide +kernel, by decide +kernel, by decide +kernel, by decide +kernel, by decide +kernel, by decide +kernel, by decide +kernel, by decide +kernel, by decide +kernel, by decide +kernel, by decide +kernel, by decide +kernel, by decide +kernel, by decide +kernel, by decide +kernel, by decide +kernel, by decide +kernel, by decide +kernel, by decide +kernel, by decide +kernel, by decide +kernel, by decide +kernel, by decide +kernel, by decide +kernel, by decide +kernel, by decide +kernel, by decide +kernel, by decide +kernel, by decide +kernel, by decide +kernel, by decide +kernel, by decide +kernel, by decide +kernel, by decide +kernel, by decide +kernel, by decide +kernel, by decide +kernel, by decide +kernel, by decide +kernel, by decide +kernel, by decide +kernel, by decide +kernel, by decide +kernel, by decide +kernel, by decide +kernel, by decide +kernel, by decide +kernel, by decide +kernel, by decide +kernel, by decide +kernel⟩
theorem D_MO_clear_1 : (decode prog_8_method_17_code 120 = .ok (.iload 9, 2)) ∧ (decode prog_8_method_17_code 122 = .ok (.iconst 4, 1)) ∧ (decode prog_8_method_17_code 123 = .ok (.if_icmp .ge 79, 3)) ∧ (decode prog_8_method_17_code 126 = .ok (.iload_n 1, 1)) ∧ (decode prog_8_method_17_code 127 = .ok (.iconst 1, 1)) ∧ (decode prog_8_method_17_code 128 = .ok (.iand, 1)) ∧ (decode prog_8_method_17_code 129 = .ok (.iconst 1, 1)) ∧ (decode prog_8_method_17_code 130 = .ok (.if_icmp .ne 20, 3)) ∧ (decode prog_8_method_17_code 133 = .ok (.aload_n 0, 1)) ∧ (decode prog_8_method_17_code 134 = .ok (.getfield 47, 3)) ∧ (decode prog_8_method_17_code 137 = .ok (.iload 9, 2)) ∧ (decode prog_8_method_17_code 139 = .ok (.ishr, 1)) ∧ (decode prog_8_method_17_code 140 = .ok (.iconst 1, 1)) ∧ (decode prog_8_method_17_code 141 = .ok (.iand, 1)) ∧ (decode prog_8_method_17_code 142 = .ok (.iconst 1, 1)) ∧ (decode prog_8_method_17_code 143 = .ok (.if_icmp .ne 7, 3)) ∧ (decode prog_8_method_17_code 146 = .ok (.iconst 1, 1)) ∧ (decode prog_8_method_17_code 147 = .ok (.goto 4, 3)) ∧ (decode prog_8_method_17_code 150 = .ok (.iconst 0, 1)) ∧ (decode prog_8_method_17_code 151 = .ok (.istore 10, 2)) ∧ (decode prog_8_method_17_code 153 = .ok (.aload_n 0, 1)) ∧ (decode prog_8_method_17_code 154 = .ok (.getfield 16, 3)) ∧ (decode prog_8_method_17_code 157 = .ok (.iconst 4, 1)) ∧ (decode prog_8_method_17_code 158 = .ok (.iload 8, 2)) ∧ (decode prog_8_method_17_code 160 = .ok (.imul, 1)) ∧ (decode prog_8_method_17_code 161 = .ok (.iload 9, 2)) ∧ (decode prog_8_method_17_code 163 = .ok (.iadd, 1)) ∧ (decode prog_8_method_17_code 164 = .ok (.iload 10, 2)) ∧ (decode prog_8_method_17_code 166 = .ok (.ifCond .eq 17, 3)) ∧ (decode prog_8_method_17_code 169 = .ok (.iload_n 2, 1)) ∧ (decode prog_8_method_17_code 170 = .ok (.bipush 8, 2)) ∧ (decode prog_8_method_17_code 172 = .ok (.iload 9, 2)) ∧ (decode prog_8_method_17_code 174 = .ok (.imul, 1)) ∧ (decode prog_8_method_17_code 175 = .ok (.ishr, 1)) ∧ (decode prog_8_method_17_code 176 = .ok (.sipush 255, 3)) ∧ (decode prog_8_method_17_code 179 = .ok (.iand, 1)) ∧ (decode prog_8_method_17_code 180 = .ok (.goto 15, 3)) ∧ (decode prog_8_method_17_code 183 = .ok (.aload_n 0, 1)) ∧ (decode prog_8_method_17_code 184 = .ok (.getfield 16, 3)) ∧ (decode prog_8_method_17_code 187 = .ok (.iconst 4, 1)) ∧ (decode prog_8_method_17_code 188 = .ok (.iload 8, 2)) ∧ (decode prog_8_method_17_code 190 = .ok (.imul, 1)) ∧ (decode prog_8_method_17_code 191 = .ok (.iload 9, 2)) ∧ (decode prog_8_method_17_code 193 = .ok (.iadd, 1)) ∧ (decode prog_8_method_17_code 194 = .ok (.iaload, 1)) ∧ (decode prog_8_method_17_code 195 = .ok (.iastore, 1)) ∧ (decode prog_8_method_17_code 196 = .ok (.iinc 9 1, 3)) ∧ (decode prog_8_method_17_code 199 = .ok (.goto (-79), 3)) ∧ (decode prog_8_method_17_code 202 = .ok (.aload_n 0, 1)) ∧ (decode prog_8_method_17_code 203 = .ok (.getfield 20, 3)) ∧ (decode prog_8_method_17_code 206 = .ok (.iload 8, 2)) ∧ (decode prog_8_method_17_code 208 = .ok (.iload_n 1, 1)) ∧ (decode prog_8_method_17_code 209 = .ok (.iconst 2, 1)) ∧ (decode prog_8_method_17_code 210 = .ok (.iand, 1)) ∧ (decode prog_8_method_17_code 211 = .ok (.iconst 2, 1)) ∧ (decode prog_8_method_17_code 212 = .ok (.if_icmp .ne 22, 3)) ∧ (decode prog_8_method_17_code 215 = .ok (.aload_n 0, 1)) ∧ (decode prog_8_method_17_code 216 = .ok (.getfield 29, 3)) ∧ (decode prog_8_method_17_code 219 = .ok (.iconst (-1), 1)) ∧ (decode prog_8_method_17_code 220 = .ok (.if_icmp .eq 10, 3)) :=
  ⟨by decide +kernel, by decide +kernel, by decide +kernel, by decide +kernel, by decide +kernel, by decide +kernel, by decide +kernel, by decide +kernel, by decide +kernel, by decide +kernel, by decide +kernel, by decide +kernel, by decide +kernel, by decide +kernel, by decide +kernel, by decide +kernel, by decide +kernel, by decide +kernel, by decide +kernel, by decide +kernel, by decide +kernel, by decide +kernel, by decide +kernel, by decide +kernel, by decide +kernel, by decide +kernel, by decide +kernel, by decide +kernel, by decide +kernel, by decide +kernel, by decide +kernel, by decide +kernel, by decide +kernel, by decide +kernel, by decide +kernel, by decide +kernel, by decide +kernel, by decide +kernel, by decide +kernel, by decide +kernel, by decide +kernel, by decide +kernel, by decide +kernel, by decide +kernel, by decide +kernel, by decide +kernel, by decide +kernel, by decide +kernel, by decide +kernel, by decide +kernel, by decide +kernel, by decide +kernel, by decide +kernel, by decide +kernel, by decide +kernel, by decide +kernel, by decide +kernel, by decide +kernel, by decide +kernel, by decide +kernel⟩
theorem D_MO_clear_2 : (decode prog_8_method_17_code 223 = .ok (.aload_n 0, 1)) ∧ (decode prog_8_method_17_code 224 = .ok (.getfield 80, 3)) ∧ (decode prog_8_method_17_code 227 = .ok (.ifCond .eq 7, 3)) ∧ (decode prog_8_method_17_code 230 = .ok (.iload_n 3, 1)) ∧ (decode prog_8_method_17_code 231 = .ok (.goto 10, 3)) ∧ (decode prog_8_method_17_code 234 = .ok (.aload_n 0, 1)) ∧ (decode prog_8_method_17_code 235 = .ok (.getfield 20, 3)) ∧ (decode prog_8_method_17_code 238 = .ok (.iload 8, 2)) ∧ (decode prog_8_method_17_code 240 = .ok (.iaload, 1)) ∧ (decode prog_8_method_17_code 241 = .ok (.iastore, 1)) ∧ (decode prog_8_method_17_code 242 = .ok (.iload_n 1, 1)) ∧ (decode prog_8_method_17_code 243 = .ok (.iconst 4, 1)) ∧ (decode prog_8_method_17_code 244 = .ok (.iand, 1)) ∧ (decode prog_8_method_17_code 245 = .ok (.iconst 4, 1)) ∧ (decode prog_8_method_17_code 246 = .ok (.if_icmp .ne 33, 3)) ∧ (decode prog_8_method_17_code 249 = .ok (.aload_n 0, 1)) ∧ (decode prog_8_method_17_code 250 = .ok (.iload 8, 2)) ∧ (decode prog_8_method_17_code 252 = .ok (.iload 4, 2)) ∧ (decode prog_8_method_17_code 254 = .ok (.aload_n 0, 1)) ∧ (decode prog_8_method_17_code 255 = .ok (.getfield 32, 3)) ∧ (decode prog_8_method_17_code 258 = .ok (.iconst 0, 1)) ∧ (decode prog_8_method_17_code 259 = .ok (.iaload, 1)) ∧ (decode prog_8_method_17_code 260 = .ok (.iconst (-1), 1)) ∧ (decode prog_8_method_17_code 261 = .ok (.if_icmp .ne 9, 3)) ∧ (decode prog_8_method_17_code 264 = .ok (.sipush 255, 3)) ∧ (decode prog_8_method_17_code 267 = .ok (.goto 9, 3)) ∧ (decode prog_8_method_17_code 270 = .ok (.aload_n 0, 1)) ∧ (decode prog_8_method_17_code 271 = .ok (.getfield 32, 3)) ∧ (decode prog_8_method_17_code 274 = .ok (.iconst 3, 1)) ∧ (decode prog_8_method_17_code 275 = .ok (.iaload, 1)) ∧ (decode prog_8_method_17_code 276 = .ok (.invokevirtual 98, 3)) ∧ (decode prog_8_method_17_code 279 = .ok (.iinc 7 1, 3)) ∧ (decode prog_8_method_17_code 282 = .ok (.goto (-206), 3)) ∧ (decode prog_8_method_17_code 285 = .ok (.iinc 6 1, 3)) ∧ (decode prog_8_method_17_code 288 = .ok (.goto (-232), 3)) ∧ (decode prog_8_method_17_code 291 = .ok (.iload 5, 2)) ∧ (decode prog_8_method_17_code 293 = .ok (.ireturn, 1)) :=
  ⟨by decide +kernel, by decide +kernel, by decide +kernel, by decide +kernel, by decide +kernel, by decide +kernel, by decide +kernel, by decide +kernel, by decide +kernel, by decide +kernel, by decide +kernel, by decide +kernel, by decide +kernel, by decide +kernel, by decide +kernel, by decide +kernel, by decide +kernel, by decide +kernel, by decide +kernel, by decide +kernel, by decide +kernel, by decide +kernel, by decide +kernel, by decide +kernel, by decide +kernel, by decide +kernel, by decide +kernel, by decide +kernel, by decide +kernel, by decide +kernel, by decide +kernel, by decide +kernel, by decide +kernel, by decide +kernel, by decide +kernel, by decide +kernel, by decide +kernel⟩
def y_MO_isOpen : MethodName := ⟨"PlaceTestsModel", "isOpen", "(II)Z"⟩
theorem D_MO_isOpen : (decode prog_8_method_14_code 0 = .ok (.aload_n 0, 1)) ∧ (decode prog_8_method_14_code 1 = .ok (.getfield 76, 3)) ∧ (decode prog_8_method_14_code 4 = .ok (.ifCond .eq 47, 3)) ∧ (decode prog_8_method_14_code 7 = .ok (.iload_n 1, 1)) ∧ (decode prog_8_method_14_code 8 = .ok (.aload_n 0, 1)) ∧ (decode prog_8_method_14_code 9 = .ok (.getfield 26, 3)) ∧ (decode prog_8_method_14_code 12 = .ok (.iconst 0, 1)) ∧ (decode prog_8_method_14_code 13 = .ok (.iaload, 1)) ∧ (decode prog_8_method_14_code 14 = .ok (.if_icmp .lt 33, 3)) ∧ (decode prog_8_method_14_code 17 = .ok (.iload_n 2, 1)) ∧ (decode prog_8_method_14_code 18 = .ok (.aload_n 0, 1)) ∧ (decode prog_8_method_14_code 19 = .ok (.getfield 26, 3)) ∧ (decode prog_8_method_14_code 22 = .ok (.iconst 1, 1)) ∧ (decode prog_8_method_14_code 23 = .ok (.iaload, 1)) ∧ (decode prog_8_method_14_code 24 = .ok (.if_icmp .lt 23, 3)) ∧ (decode prog_8_method_14_code 27 = .ok (.iload_n 1, 1)) ∧ (decode prog_8_method_14_code 28 = .ok (.aload_n 0, 1)) ∧ (decode prog_8_method_14_code 29 = .ok (.getfield 26, 3)) ∧ (decode prog_8_method_14_code 32 = .ok (.iconst 2, 1)) ∧ (decode prog_8_method_14_code 33 = .ok (.iaload, 1)) ∧ (decode prog_8_method_14_code 34 = .ok (.if_icmp .ge 13, 3)) ∧ (decode prog_8_method_14_code 37 = .ok (.iload_n 2, 1)) ∧ (decode prog_8_method_14_code 38 = .ok (.aload_n 0, 1)) ∧ (decode prog_8_method_14_code 39 = .ok (.getfield 26, 3)) ∧ (decode prog_8_method_14_code 42 = .ok (.iconst 3, 1)) ∧ (decode prog_8_method_14_code 43 = .ok (.iaload, 1)) ∧ (decode prog_8_method_14_code 44 = .ok (.if_icmp .lt 7, 3)) ∧ (decode prog_8_method_14_code 47 = .ok (.iconst 1, 1)) ∧ (decode prog_8_method_14_code 48 = .ok (.goto 4, 3)) ∧ (decode prog_8_method_14_code 51 = .ok (.iconst 0, 1)) ∧ (decode prog_8_method_14_code 52 = .ok (.istore_n 3, 1)) ∧ (decode prog_8_method_14_code 53 = .ok (.aload_n 0, 1)) ∧ (decode prog_8_method_14_code 54 = .ok (.iload_n 1, 1)) ∧ (decode prog_8_method_14_code 55 = .ok (.iload_n 2, 1)) ∧ (decode prog_8_method_14_code 56 = .ok (.invokevirtual 86, 3)) ∧ (decode prog_8_method_14_code 59 = .ok (.ifCond .eq 11, 3)) ∧ (decode prog_8_method_14_code 62 = .ok (.iload_n 3, 1)) ∧ (decode prog_8_method_14_code 63 = .ok (.ifCond .ne 7, 3)) ∧ (decode prog_8_method_14_code 66 = .ok (.iconst 1, 1)) ∧ (decode prog_8_method_14_code 67 = .ok (.goto 4, 3)) ∧ (decode prog_8_method_14_code 70 = .ok (.iconst 0, 1)) ∧ (decode prog_8_method_14_code 71 = .ok (.ireturn, 1)) :=
  ⟨by decide +kernel, by decide +kernel, by decide +kernel, by decide +kernel, by decide +kernel, by decide +kernel, by decide +kernel, by decide +kernel, by decide +kernel, by decide +kernel, by decide +kernel, by decide +kernel, by decide +kernel, by decide +kernel, by decide +kernel, by decide +kernel, by decide +kernel, by decide +kernel, by decide +kernel, by decide +kernel, by decide +kernel, by decide +kernel, by decide +kernel, by decide +kernel, by decide +kernel, by decide +kernel, by decide +kernel, by decide +kernel, by decide +kernel, by decide +kernel, by decide +kernel, by decide +kernel, by decide +kernel, by decide +kernel, by decide +kernel, by decide +kernel, by decide +kernel, by decide +kernel, by decide +kernel, by decide +kernel, by decide +kernel, by decide +kernel⟩
def y_MO_isInFrame : MethodName := ⟨"PlaceTestsModel", "isInFrame", "(II)Z"⟩
theorem D_MO_isInFrame : (decode prog_8_method_13_code 0 = .ok (.iload_n 1, 1)) ∧ (decode prog_8_method_13_code 1 = .ok (.aload_n 0, 1)) ∧ (decode prog_8_method_13_code 2 = .ok (.getfield 70, 3)) ∧ (decode prog_8_method_13_code 5 = .ok (.if_icmp .lt 41, 3)) ∧ (decode prog_8_method_13_code 8 = .ok (.iload_n 1, 1)) ∧ (decode prog_8_method_13_code 9 = .ok (.aload_n 0, 1)) ∧ (decode prog_8_method_13_code 10 = .ok (.getfield 70, 3)) ∧ (decode prog_8_method_13_code 13 = .ok (.aload_n 0, 1)) ∧ (decode prog_8_method_13_code 14 = .ok (.getfield 7, 3)) ∧ (decode prog_8_method_13_code 17 = .ok (.iadd, 1)) ∧ (decode prog_8_method_13_code 18 = .ok (.if_icmp .ge 28, 3)) ∧ (decode prog_8_method_13_code 21 = .ok (.iload_n 2, 1)) ∧ (decode prog_8_method_13_code 22 = .ok (.aload_n 0, 1)) ∧ (decode prog_8_method_13_code 23 = .ok (.getfield 73, 3)) ∧ (decode prog_8_method_13_code 26 = .ok (.if_icmp .lt 20, 3)) ∧ (decode prog_8_method_13_code 29 = .ok (.iload_n 2, 1)) ∧ (decode prog_8_method_13_code 30 = .ok (.aload_n 0, 1)) ∧ (decode prog_8_method_13_code 31 = .ok (.getfield 73, 3)) ∧ (decode prog_8_method_13_code 34 = .ok (.aload_n 0, 1)) ∧ (decode prog_8_method_13_code 35 = .ok (.getfield 13, 3)) ∧ (decode prog_8_method_13_code 38 = .ok (.iadd, 1)) ∧ (decode prog_8_method_13_code 39 = .ok (.if_icmp .ge 7, 3)) ∧ (decode prog_8_method_13_code 42 = .ok (.iconst 1, 1)) ∧ (decode prog_8_method_13_code 43 = .ok (.goto 4, 3)) ∧ (decode prog_8_method_13_code 46 = .ok (.iconst 0, 1)) ∧ (decode prog_8_method_13_code 47 = .ok (.ireturn, 1)) :=
  ⟨by decide +kernel, by decide +kernel, by decide +kernel, by decide +kernel, by decide +kernel, by decide +kernel, by decide +kernel, by decide +kernel, by decide +kernel, by decide +kernel, by decide +kernel, by decide +kernel, by decide +kernel, by decide +kernel, by decide +kernel, by decide +kernel, by decide +kernel, by decide +kernel, by decide +kernel, by decide +kernel, by decide +kernel, by decide +kernel, by decide +kernel, by decide +kernel, by decide +kernel, by decide +kernel⟩
def y_MO_placeOf : MethodName := ⟨"PlaceTestsModel", "placeOf", "(II)I"⟩
theorem D_MO_placeOf : (decode prog_8_method_15_code 0 = .ok (.iload_n 2, 1)) ∧ (decode prog_8_method_15_code 1 = .ok (.aload_n 0, 1)) ∧ (decode prog_8_method_15_code 2 = .ok (.getfield 73, 3)) ∧ (decode prog_8_method_15_code 5 = .ok (.isub, 1)) ∧ (decode prog_8_method_15_code 6 = .ok (.aload_n 0, 1)) ∧ (decode prog_8_method_15_code 7 = .ok (.getfield 7, 3)) ∧ (decode prog_8_method_15_code 10 = .ok (.imul, 1)) ∧ (decode prog_8_method_15_code 11 = .ok (.iload_n 1, 1)) ∧ (decode prog_8_method_15_code 12 = .ok (.iadd, 1)) ∧ (decode prog_8_method_15_code 13 = .ok (.aload_n 0, 1)) ∧ (decode prog_8_method_15_code 14 = .ok (.getfield 70, 3)) ∧ (decode prog_8_method_15_code 17 = .ok (.isub, 1)) ∧ (decode prog_8_method_15_code 18 = .ok (.ireturn, 1)) :=
  ⟨by decide +kernel, by decide +kernel, by decide +kernel, by decide +kernel, by decide +kernel, by decide +kernel, by decide +kernel, by decide +kernel, by decide +kernel, by decide +kernel, by decide +kernel, by decide +kernel, by decide +kernel⟩
def y_MO_writeStencil : MethodName := ⟨"PlaceTestsModel", "writeStencil", "(III)V"⟩
theorem D_MO_writeStencil : (decode prog_8_method_16_code 0 = .ok (.aload_n 0, 1)) ∧ (decode prog_8_method_16_code 1 = .ok (.getfield 23, 3)) ∧ (decode prog_8_method_16_code 4 = .ok (.iload_n 1, 1)) ∧ (decode prog_8_method_16_code 5 = .ok (.aload_n 0, 1)) ∧ (decode prog_8_method_16_code 6 = .ok (.getfield 23, 3)) ∧ (decode prog_8_method_16_code 9 = .ok (.iload_n 1, 1)) ∧ (decode prog_8_method_16_code 10 = .ok (.iaload, 1)) ∧ (decode prog_8_method_16_code 11 = .ok (.iload_n 3, 1)) ∧ (decode prog_8_method_16_code 12 = .ok (.iconst (-1), 1)) ∧ (decode prog_8_method_16_code 13 = .ok (.ixor, 1)) ∧ (decode prog_8_method_16_code 14 = .ok (.iand, 1)) ∧ (decode prog_8_method_16_code 15 = .ok (.iload_n 2, 1)) ∧ (decode prog_8_method_16_code 16 = .ok (.iload_n 3, 1)) ∧ (decode prog_8_method_16_code 17 = .ok (.iand, 1)) ∧ (decode prog_8_method_16_code 18 = .ok (.ior, 1)) ∧ (decode prog_8_method_16_code 19 = .ok (.iastore, 1)) ∧ (decode prog_8_method_16_code 20 = .ok (.return_, 1)) :=
  ⟨by decide +kernel, by decide +kernel, by decide +kernel, by decide +kernel, by decide +kernel, by decide +kernel, by decide +kernel, by decide +kernel, by decide +kernel, by decide +kernel, by decide +kernel, by decide +kernel, by decide +kernel, by decide +kernel, by decide +kernel, by decide +kernel, by decide +kernel⟩
def y_MO_draw : MethodName := ⟨"PlaceTestsModel", "draw", "(IIIIIIII)I"⟩
theorem D_MO_draw_0 : (decode prog_8_method_27_code 0 = .ok (.aload_n 0, 1)) ∧ (decode prog_8_method_27_code 1 = .ok (.iload_n 3, 1)) ∧ (decode prog_8_method_27_code 2 = .ok (.iconst 0, 1)) ∧ (decode prog_8_method_27_code 3 = .ok (.ldc 90, 2)) ∧ (decode prog_8_method_27_code 5 = .ok (.invokestatic 62, 3)) ∧ (decode prog_8_method_27_code 8 = .ok (.ifCond .eq 13, 3)) ∧ (decode prog_8_method_27_code 11 = .ok (.iload 4, 2)) ∧ (decode prog_8_method_27_code 13 = .ok (.iconst 0, 1)) ∧ (decode prog_8_method_27_code 14 = .ok (.iconst 1, 1)) ∧ (decode prog_8_method_27_code 15 = .ok (.invokestatic 62, 3)) ∧ (decode prog_8_method_27_code 18 = .ok (.ifCond .ne 7, 3)) ∧ (decode prog_8_method_27_code 21 = .ok (.iconst 1, 1)) ∧ (decode prog_8_method_27_code 22 = .ok (.goto 4, 3)) ∧ (decode prog_8_method_27_code 25 = .ok (.iconst 0, 1)) ∧ (decode prog_8_method_27_code 26 = .ok (.iconst 0, 1)) ∧ (decode prog_8_method_27_code 27 = .ok (.invokevirtual 66, 3)) ∧ (decode prog_8_method_27_code 30 = .ok (.ifCond .eq 5, 3)) ∧ (decode prog_8_method_27_code 33 = .ok (.iconst 0, 1)) ∧ (decode prog_8_method_27_code 34 = .ok (.ireturn, 1)) ∧ (decode prog_8_method_27_code 35 = .ok (.aload_n 0, 1)) ∧ (decode prog_8_method_27_code 36 = .ok (.iload_n 1, 1)) ∧ (decode prog_8_method_27_code 37 = .ok (.iload_n 2, 1)) ∧ (decode prog_8_method_27_code 38 = .ok (.invokevirtual 91, 3)) ∧ (decode prog_8_method_27_code 41 = .ok (.ifCond .ne 9, 3)) ∧ (decode prog_8_method_27_code 44 = .ok (.aload_n 0, 1)) ∧ (decode prog_8_method_27_code 45 = .ok (.iconst 0, 1)) ∧ (decode prog_8_method_27_code 46 = .ok (.invokevirtual 115, 3)) ∧ (decode prog_8_method_27_code 49 = .ok (.ireturn, 1)) ∧ (decode prog_8_method_27_code 50 = .ok (.aload_n 0, 1)) ∧ (decode prog_8_method_27_code 51 = .ok (.iload_n 1, 1)) ∧ (decode prog_8_method_27_code 52 = .ok (.iload_n 2, 1)) ∧ (decode prog_8_method_27_code 53 = .ok (.invokevirtual 94, 3)) ∧ (decode prog_8_method_27_code 56 = .ok (.istore 9, 2)) ∧ (decode prog_8_method_27_code 58 = .ok (.bipush 7, 2)) ∧ (decode prog_8_method_27_code 60 = .ok (.iload 4, 2)) ∧ (decode prog_8_method_27_code 62 = .ok (.imul, 1)) ∧ (decode prog_8_method_27_code 63 = .ok (.istore 10, 2)) ∧ (decode prog_8_method_27_code 65 = .ok (.aload_n 0, 1)) ∧ (decode prog_8_method_27_code 66 = .ok (.getfield 32, 3)) ∧ (decode prog_8_method_27_code 69 = .ok (.iload 10, 2)) ∧ (decode prog_8_method_27_code 71 = .ok (.iaload, 1)) ∧ (decode prog_8_method_27_code 72 = .ok (.ifCond .lt 67, 3)) ∧ (decode prog_8_method_27_code 75 = .ok (.aload_n 0, 1)) ∧ (decode prog_8_method_27_code 76 = .ok (.getfield 32, 3)) ∧ (decode prog_8_method_27_code 79 = .ok (.iload 10, 2)) ∧ (decode prog_8_method_27_code 81 = .ok (.iaload, 1)) ∧ (decode prog_8_method_27_code 82 = .ok (.aload_n 0, 1)) ∧ (decode prog_8_method_27_code 83 = .ok (.getfield 32, 3)) ∧ (decode prog_8_method_27_code 86 = .ok (.iload 10, 2)) ∧ (decode prog_8_method_27_code 88 = .ok (.iconst 1, 1)) ∧ (decode prog_8_method_27_code 89 = .ok (.iadd, 1)) ∧ (decode prog_8_method_27_code 90 = .ok (.iaload, 1)) ∧ (decode prog_8_method_27_code 91 = .ok (.aload_n 0, 1)) ∧ (decode prog_8_method_27_code 92 = .ok (.getfield 32, 3)) ∧ (decode prog_8_method_27_code 95 = .ok (.iload 10, 2)) ∧ (decode prog_8_method_27_code 97 = .ok (.iconst 2, 1)) ∧ (decode prog_8_method_27_code 98 = .ok (.iadd, 1)) ∧ (decode prog_8_method_27_code 99 = .ok (.iaload, 1)) ∧ (decode prog_8_method_27_code 100 = .ok (.iand, 1)) ∧ (decode prog_8_method_27_code 101 = .ok (.aload_n 0, 1)) :=
  ⟨by decide +kernel, by decide +kernel, by decide +kernel, by decide +kernel, by decide +kernel, by decide +kernel, by decide +kernel, by decide +kernel, by decide +kernel, by decide +kernel, by decide +kernel, by decide +kernel, by decide +kernel, by decide +kernel, by decide +kernel, by decide +kernel, by decide +kernel, by decide +kernel, by decide +kernel, by decide +kernel, by decide +kernel, by decide +kernel, by decide +kernel, by decide +kernel, by decide +kernel, by decide +kernel, by decide +kernel, by decide +kernel, by decide +kernel, by decide +kernel, by decide +kernel, by decide +kernel, by decide +kernel, by decide +kernel, by decide +kernel, by decide +kernel, by decide +kernel, by decide +kernel, by decide +kernel, by decide +kernel, by decide +kernel, by decide +kernel, by decide +kernel, by decide +kernel, by decide +kernel, by decide +kernel, by decide +kernel, by decide +kernel, by decide +kernel, by decide +kernel, by decide +kernel, by decide +kernel, by decide +kernel, by decide +kernel, by decide +kernel, by decide +kernel, by decide +kernel, by decide +kernel, by decide +kernel, by decide +kernel⟩
theorem D_MO_draw_1 : (decode prog_8_method_27_code 102 = .ok (.getfield 23, 3)) ∧ (decode prog_8_method_27_code 105 = .ok (.iload 9, 2)) ∧ (decode prog_8_method_27_code 107 = .ok (.iaload, 1)) ∧ (decode prog_8_method_27_code 108 = .ok (.aload_n 0, 1)) ∧ (decode prog_8_method_27_code 109 = .ok (.getfield 32, 3)) ∧ (decode prog_8_method_27_code 112 = .ok (.iload 10, 2)) ∧ (decode prog_8_method_27_code 114 = .ok (.iconst 2, 1)) ∧ (decode prog_8_method_27_code 115 = .ok (.iadd, 1)) ∧ (decode prog_8_method_27_code 116 = .ok (.iaload, 1)) ∧ (decode prog_8_method_27_code 117 = .ok (.iand, 1)) ∧ (decode prog_8_method_27_code 118 = .ok (.invokestatic 118, 3)) ∧ (decode prog_8_method_27_code 121 = .ok (.ifCond .ne 18, 3)) ∧ (decode prog_8_method_27_code 124 = .ok (.aload_n 0, 1)) ∧ (decode prog_8_method_27_code 125 = .ok (.iload 9, 2)) ∧ (decode prog_8_method_27_code 127 = .ok (.iload 4, 2)) ∧ (decode prog_8_method_27_code 129 = .ok (.iconst 4, 1)) ∧ (decode prog_8_method_27_code 130 = .ok (.invokevirtual 121, 3)) ∧ (decode prog_8_method_27_code 133 = .ok (.aload_n 0, 1)) ∧ (decode prog_8_method_27_code 134 = .ok (.iconst 1, 1)) ∧ (decode prog_8_method_27_code 135 = .ok (.invokevirtual 115, 3)) ∧ (decode prog_8_method_27_code 138 = .ok (.ireturn, 1)) ∧ (decode prog_8_method_27_code 139 = .ok (.aload_n 0, 1)) ∧ (decode prog_8_method_27_code 140 = .ok (.getfield 29, 3)) ∧ (decode prog_8_method_27_code 143 = .ok (.ifCond .lt 36, 3)) ∧ (decode prog_8_method_27_code 146 = .ok (.aload_n 0, 1)) ∧ (decode prog_8_method_27_code 147 = .ok (.getfield 29, 3)) ∧ (decode prog_8_method_27_code 150 = .ok (.iload_n 3, 1)) ∧ (decode prog_8_method_27_code 151 = .ok (.aload_n 0, 1)) ∧ (decode prog_8_method_27_code 152 = .ok (.getfield 20, 3)) ∧ (decode prog_8_method_27_code 155 = .ok (.iload 9, 2)) ∧ (decode prog_8_method_27_code 157 = .ok (.iaload, 1)) ∧ (decode prog_8_method_27_code 158 = .ok (.invokestatic 118, 3)) ∧ (decode prog_8_method_27_code 161 = .ok (.ifCond .ne 18, 3)) ∧ (decode prog_8_method_27_code 164 = .ok (.aload_n 0, 1)) ∧ (decode prog_8_method_27_code 165 = .ok (.iload 9, 2)) ∧ (decode prog_8_method_27_code 167 = .ok (.iload 4, 2)) ∧ (decode prog_8_method_27_code 169 = .ok (.iconst 5, 1)) ∧ (decode prog_8_method_27_code 170 = .ok (.invokevirtual 121, 3)) ∧ (decode prog_8_method_27_code 173 = .ok (.aload_n 0, 1)) ∧ (decode prog_8_method_27_code 174 = .ok (.iconst 2, 1)) ∧ (decode prog_8_method_27_code 175 = .ok (.invokevirtual 115, 3)) ∧ (decode prog_8_method_27_code 178 = .ok (.ireturn, 1)) ∧ (decode prog_8_method_27_code 179 = .ok (.aload_n 0, 1)) ∧ (decode prog_8_method_27_code 180 = .ok (.iload 9, 2)) ∧ (decode prog_8_method_27_code 182 = .ok (.iload 4, 2)) ∧ (decode prog_8_method_27_code 184 = .ok (.bipush 6, 2)) ∧ (decode prog_8_method_27_code 186 = .ok (.invokevirtual 121, 3)) ∧ (decode prog_8_method_27_code 189 = .ok (.aload_n 0, 1)) ∧ (decode prog_8_method_27_code 190 = .ok (.getfield 20, 3)) ∧ (decode prog_8_method_27_code 193 = .ok (.iload 9, 2)) ∧ (decode prog_8_method_27_code 195 = .ok (.aload_n 0, 1)) ∧ (decode prog_8_method_27_code 196 = .ok (.getfield 29, 3)) ∧ (decode prog_8_method_27_code 199 = .ok (.ifCond .lt 14, 3)) ∧ (decode prog_8_method_27_code 202 = .ok (.aload_n 0, 1)) ∧ (decode prog_8_method_27_code 203 = .ok (.getfield 80, 3)) ∧ (decode prog_8_method_27_code 206 = .ok (.ifCond .eq 7, 3)) ∧ (decode prog_8_method_27_code 209 = .ok (.iload_n 3, 1)) ∧ (decode prog_8_method_27_code 210 = .ok (.goto 10, 3)) ∧ (decode prog_8_method_27_code 213 = .ok (.aload_n 0, 1)) ∧ (decode prog_8_method_27_code 214 = .ok (.getfield 20, 3)) :=
  ⟨by decide +kernel, by decide +kernel, by decide +kernel, by decide +kernel, by decide +kernel, by decide +kernel, by decide +kernel, by decide +kernel, by decide +kernel, by decide +kernel, by decide +kernel, by decide +kernel, by decide +kernel, by decide +kernel, by decide +kernel, by decide +kernel, by decide +kernel, by decide +kernel, by decide +kernel, by decide +kernel, by decide +kernel, by decide +kernel, by decide +kernel, by decide +kernel, by decide +kernel, by decide +kernel, by decide +kernel, by decide +kernel, by decide +kernel, by decide +kernel, by decide +kernel, by decide +kernel, by decide +kernel, by decide +kernel, by decide +kernel, by decide +kernel, by decide +kernel, by decide +kernel, by decide +kernel, by decide +kernel, by decide +kernel, by decide +kernel, by decide +kernel, by decide +kernel, by decide +kernel, by decide +kernel, by decide +kernel, by decide +kernel, by decide +kernel, by decide +kernel, by decide +kernel, by decide +kernel, by decide +kernel, by decide +kernel, by decide +kernel, by decide +kernel, by decide +kernel, by decide +kernel, by decide +kernel, by decide +kernel⟩
theorem D_MO_draw_2 : (decode prog_8_method_27_code 217 = .ok (.iload 9, 2)) ∧ (decode prog_8_method_27_code 219 = .ok (.iaload, 1)) ∧ (decode prog_8_method_27_code 220 = .ok (.iastore, 1)) ∧ (decode prog_8_method_27_code 221 = .ok (.iconst 0, 1)) ∧ (decode prog_8_method_27_code 222 = .ok (.istore 11, 2)) ∧ (decode prog_8_method_27_code 224 = .ok (.iload 11, 2)) ∧ (decode prog_8_method_27_code 226 = .ok (.iconst 4, 1)) ∧ (decode prog_8_method_27_code 227 = .ok (.if_icmp .ge 72, 3)) ∧ (decode prog_8_method_27_code 230 = .ok (.aload_n 0, 1)) ∧ (decode prog_8_method_27_code 231 = .ok (.getfield 53, 3)) ∧ (decode prog_8_method_27_code 234 = .ok (.iload 11, 2)) ∧ (decode prog_8_method_27_code 236 = .ok (.iload 11, 2)) ∧ (decode prog_8_method_27_code 238 = .ok (.ifCond .ne 8, 3)) ∧ (decode prog_8_method_27_code 241 = .ok (.iload 5, 2)) ∧ (decode prog_8_method_27_code 243 = .ok (.goto 27, 3)) ∧ (decode prog_8_method_27_code 246 = .ok (.iload 11, 2)) ∧ (decode prog_8_method_27_code 248 = .ok (.iconst 1, 1)) ∧ (decode prog_8_method_27_code 249 = .ok (.if_icmp .ne 8, 3)) ∧ (decode prog_8_method_27_code 252 = .ok (.iload 6, 2)) ∧ (decode prog_8_method_27_code 254 = .ok (.goto 16, 3)) ∧ (decode prog_8_method_27_code 257 = .ok (.iload 11, 2)) ∧ (decode prog_8_method_27_code 259 = .ok (.iconst 2, 1)) ∧ (decode prog_8_method_27_code 260 = .ok (.if_icmp .ne 8, 3)) ∧ (decode prog_8_method_27_code 263 = .ok (.iload 7, 2)) ∧ (decode prog_8_method_27_code 265 = .ok (.goto 5, 3)) ∧ (decode prog_8_method_27_code 268 = .ok (.iload 8, 2)) ∧ (decode prog_8_method_27_code 270 = .ok (.invokestatic 124, 3)) ∧ (decode prog_8_method_27_code 273 = .ok (.iastore, 1)) ∧ (decode prog_8_method_27_code 274 = .ok (.aload_n 0, 1)) ∧ (decode prog_8_method_27_code 275 = .ok (.getfield 56, 3)) ∧ (decode prog_8_method_27_code 278 = .ok (.iload 11, 2)) ∧ (decode prog_8_method_27_code 280 = .ok (.aload_n 0, 1)) ∧ (decode prog_8_method_27_code 281 = .ok (.getfield 16, 3)) ∧ (decode prog_8_method_27_code 284 = .ok (.iconst 4, 1)) ∧ (decode prog_8_method_27_code 285 = .ok (.iload 9, 2)) ∧ (decode prog_8_method_27_code 287 = .ok (.imul, 1)) ∧ (decode prog_8_method_27_code 288 = .ok (.iload 11, 2)) ∧ (decode prog_8_method_27_code 290 = .ok (.iadd, 1)) ∧ (decode prog_8_method_27_code 291 = .ok (.iaload, 1)) ∧ (decode prog_8_method_27_code 292 = .ok (.iastore, 1)) ∧ (decode prog_8_method_27_code 293 = .ok (.iinc 11 1, 3)) ∧ (decode prog_8_method_27_code 296 = .ok (.goto (-72), 3)) ∧ (decode prog_8_method_27_code 299 = .ok (.iconst 0, 1)) ∧ (decode prog_8_method_27_code 300 = .ok (.istore 11, 2)) ∧ (decode prog_8_method_27_code 302 = .ok (.iload 11, 2)) ∧ (decode prog_8_method_27_code 304 = .ok (.iconst 4, 1)) ∧ (decode prog_8_method_27_code 305 = .ok (.if_icmp .ge 87, 3)) ∧ (decode prog_8_method_27_code 308 = .ok (.aload_n 0, 1)) ∧ (decode prog_8_method_27_code 309 = .ok (.getfield 44, 3)) ∧ (decode prog_8_method_27_code 312 = .ok (.ifCond .lt 12, 3)) ∧ (decode prog_8_method_27_code 315 = .ok (.aload_n 0, 1)) ∧ (decode prog_8_method_27_code 316 = .ok (.iload 11, 2)) ∧ (decode prog_8_method_27_code 318 = .ok (.invokevirtual 127, 3)) ∧ (decode prog_8_method_27_code 321 = .ok (.goto 26, 3)) ∧ (decode prog_8_method_27_code 324 = .ok (.aload_n 0, 1)) ∧ (decode prog_8_method_27_code 325 = .ok (.getfield 38, 3)) ∧ (decode prog_8_method_27_code 328 = .ok (.ifCond .lt 12, 3)) ∧ (decode prog_8_method_27_code 331 = .ok (.aload_n 0, 1)) ∧ (decode prog_8_method_27_code 332 = .ok (.iload 11, 2)) ∧ (decode prog_8_method_27_code 334 = .ok (.invokevirtual 130, 3)) :=
  ⟨by decide +kernel, by decide +kernel, by decide +kernel, by decide +kernel, by decide +kernel, by decide +kernel, by decide +kernel, by decide +kernel, by decide +kernel, by decide +kernel, by decide +kernel, by decide +kernel, by decide +kernel, by decide +kernel, by decide +kernel, by decide +kernel, by decide +kernel, by decide +kernel, by decide +kernel, by decide +kernel, by decide +kernel, by decide +kernel, by decide +kernel, by decide +kernel, by decide +kernel, by decide +kernel, by decide +kernel, by decide +kernel, by decide +kernel, by decide +kernel, by decide +kernel, by decide +kernel, by decide +kernel, by decide +kernel, by decide +kernel, by decide +kernel, by decide +kernel, by decide +kernel, by decide +kernel, by decide +kernel, by decide +kernel, by decide +kernel, by decide +kernel, by decide +kernel, by decide +kernel, by decide +kernel, by decide +kernel, by decide +kernel, by decide +kernel, by decide +kernel, by decide +kernel, by decide +kernel, by decide +kernel, by decide +kernel, by decide +kernel, by decide +kernel, by decide +kernel, by decide +kernel, by decide +kernel, by decide +kernel⟩
theorem D_MO_draw_3 : (decode prog_8_method_27_code 337 = .ok (.goto 10, 3)) ∧ (decode prog_8_method_27_code 340 = .ok (.aload_n 0, 1)) ∧ (decode prog_8_method_27_code 341 = .ok (.getfield 53, 3)) ∧ (decode prog_8_method_27_code 344 = .ok (.iload 11, 2)) ∧ (decode prog_8_method_27_code 346 = .ok (.iaload, 1)) ∧ (decode prog_8_method_27_code 347 = .ok (.istore 12, 2)) ∧ (decode prog_8_method_27_code 349 = .ok (.aload_n 0, 1)) ∧ (decode prog_8_method_27_code 350 = .ok (.getfield 16, 3)) ∧ (decode prog_8_method_27_code 353 = .ok (.iconst 4, 1)) ∧ (decode prog_8_method_27_code 354 = .ok (.iload 9, 2)) ∧ (decode prog_8_method_27_code 356 = .ok (.imul, 1)) ∧ (decode prog_8_method_27_code 357 = .ok (.iload 11, 2)) ∧ (decode prog_8_method_27_code 359 = .ok (.iadd, 1)) ∧ (decode prog_8_method_27_code 360 = .ok (.aload_n 0, 1)) ∧ (decode prog_8_method_27_code 361 = .ok (.getfield 47, 3)) ∧ (decode prog_8_method_27_code 364 = .ok (.iload 11, 2)) ∧ (decode prog_8_method_27_code 366 = .ok (.ishr, 1)) ∧ (decode prog_8_method_27_code 367 = .ok (.iconst 1, 1)) ∧ (decode prog_8_method_27_code 368 = .ok (.iand, 1)) ∧ (decode prog_8_method_27_code 369 = .ok (.iconst 1, 1)) ∧ (decode prog_8_method_27_code 370 = .ok (.if_icmp .ne 8, 3)) ∧ (decode prog_8_method_27_code 373 = .ok (.iload 12, 2)) ∧ (decode prog_8_method_27_code 375 = .ok (.goto 10, 3)) ∧ (decode prog_8_method_27_code 378 = .ok (.aload_n 0, 1)) ∧ (decode prog_8_method_27_code 379 = .ok (.getfield 56, 3)) ∧ (decode prog_8_method_27_code 382 = .ok (.iload 11, 2)) ∧ (decode prog_8_method_27_code 384 = .ok (.iaload, 1)) ∧ (decode prog_8_method_27_code 385 = .ok (.iastore, 1)) ∧ (decode prog_8_method_27_code 386 = .ok (.iinc 11 1, 3)) ∧ (decode prog_8_method_27_code 389 = .ok (.goto (-87), 3)) ∧ (decode prog_8_method_27_code 392 = .ok (.aload_n 0, 1)) ∧ (decode prog_8_method_27_code 393 = .ok (.iconst 3, 1)) ∧ (decode prog_8_method_27_code 394 = .ok (.invokevirtual 115, 3)) ∧ (decode prog_8_method_27_code 397 = .ok (.ireturn, 1)) :=
  ⟨by decide +kernel, by decide +kernel, by decide +kernel, by decide +kernel, by decide +kernel, by decide +kernel, by decide +kernel, by decide +kernel, by decide +kernel, by decide +kernel, by decide +kernel, by decide +kernel, by decide +kernel, by decide +kernel, by decide +kernel, by decide +kernel, by decide +kernel, by decide +kernel, by decide +kernel, by decide +kernel, by decide +kernel, by decide +kernel, by decide +kernel, by decide +kernel, by decide +kernel, by decide +kernel, by decide +kernel, by decide +kernel, by decide +kernel, by decide +kernel, by decide +kernel, by decide +kernel, by decide +kernel, by decide +kernel⟩
def y_MO_answer : MethodName := ⟨"PlaceTestsModel", "answer", "(I)I"⟩
theorem D_MO_answer : (decode prog_8_method_26_code 0 = .ok (.aload_n 0, 1)) ∧ (decode prog_8_method_26_code 1 = .ok (.getfield 50, 3)) ∧ (decode prog_8_method_26_code 4 = .ok (.iload_n 1, 1)) ∧ (decode prog_8_method_26_code 5 = .ok (.dup2, 1)) ∧ (decode prog_8_method_26_code 6 = .ok (.iaload, 1)) ∧ (decode prog_8_method_26_code 7 = .ok (.iconst 1, 1)) ∧ (decode prog_8_method_26_code 8 = .ok (.iadd, 1)) ∧ (decode prog_8_method_26_code 9 = .ok (.iastore, 1)) ∧ (decode prog_8_method_26_code 10 = .ok (.iload_n 1, 1)) ∧ (decode prog_8_method_26_code 11 = .ok (.ireturn, 1)) :=
  ⟨by decide +kernel, by decide +kernel, by decide +kernel, by decide +kernel, by decide +kernel, by decide +kernel, by decide +kernel, by decide +kernel, by decide +kernel, by decide +kernel⟩
def y_MO_holds : MethodName := ⟨"PlaceTestsModel", "holds", "(III)Z"⟩
theorem D_MO_holds : (decode prog_8_method_18_code 0 = .ok (.iload_n 0, 1)) ∧ (decode prog_8_method_18_code 1 = .ok (.iconst 1, 1)) ∧ (decode prog_8_method_18_code 2 = .ok (.if_icmp .eq 19, 3)) ∧ (decode prog_8_method_18_code 5 = .ok (.iload_n 0, 1)) ∧ (decode prog_8_method_18_code 6 = .ok (.iconst 3, 1)) ∧ (decode prog_8_method_18_code 7 = .ok (.if_icmp .eq 14, 3)) ∧ (decode prog_8_method_18_code 10 = .ok (.iload_n 0, 1)) ∧ (decode prog_8_method_18_code 11 = .ok (.iconst 5, 1)) ∧ (decode prog_8_method_18_code 12 = .ok (.if_icmp .eq 9, 3)) ∧ (decode prog_8_method_18_code 15 = .ok (.iload_n 0, 1)) ∧ (decode prog_8_method_18_code 16 = .ok (.bipush 7, 2)) ∧ (decode prog_8_method_18_code 18 = .ok (.if_icmp .ne 7, 3)) ∧ (decode prog_8_method_18_code 21 = .ok (.iconst 1, 1)) ∧ (decode prog_8_method_18_code 22 = .ok (.goto 4, 3)) ∧ (decode prog_8_method_18_code 25 = .ok (.iconst 0, 1)) ∧ (decode prog_8_method_18_code 26 = .ok (.istore_n 3, 1)) ∧ (decode prog_8_method_18_code 27 = .ok (.iload_n 0, 1)) ∧ (decode prog_8_method_18_code 28 = .ok (.iconst 2, 1)) ∧ (decode prog_8_method_18_code 29 = .ok (.if_icmp .eq 20, 3)) ∧ (decode prog_8_method_18_code 32 = .ok (.iload_n 0, 1)) ∧ (decode prog_8_method_18_code 33 = .ok (.iconst 3, 1)) ∧ (decode prog_8_method_18_code 34 = .ok (.if_icmp .eq 15, 3)) ∧ (decode prog_8_method_18_code 37 = .ok (.iload_n 0, 1)) ∧ (decode prog_8_method_18_code 38 = .ok (.bipush 6, 2)) ∧ (decode prog_8_method_18_code 40 = .ok (.if_icmp .eq 9, 3)) ∧ (decode prog_8_method_18_code 43 = .ok (.iload_n 0, 1)) ∧ (decode prog_8_method_18_code 44 = .ok (.bipush 7, 2)) ∧ (decode prog_8_method_18_code 46 = .ok (.if_icmp .ne 7, 3)) ∧ (decode prog_8_method_18_code 49 = .ok (.iconst 1, 1)) ∧ (decode prog_8_method_18_code 50 = .ok (.goto 4, 3)) ∧ (decode prog_8_method_18_code 53 = .ok (.iconst 0, 1)) ∧ (decode prog_8_method_18_code 54 = .ok (.istore 4, 2)) ∧ (decode prog_8_method_18_code 56 = .ok (.iload_n 0, 1)) ∧ (decode prog_8_method_18_code 57 = .ok (.iconst 4, 1)) ∧ (decode prog_8_method_18_code 58 = .ok (.if_icmp .eq 20, 3)) ∧ (decode prog_8_method_18_code 61 = .ok (.iload_n 0, 1)) ∧ (decode prog_8_method_18_code 62 = .ok (.iconst 5, 1)) ∧ (decode prog_8_method_18_code 63 = .ok (.if_icmp .eq 15, 3)) ∧ (decode prog_8_method_18_code 66 = .ok (.iload_n 0, 1)) ∧ (decode prog_8_method_18_code 67 = .ok (.bipush 6, 2)) ∧ (decode prog_8_method_18_code 69 = .ok (.if_icmp .eq 9, 3)) ∧ (decode prog_8_method_18_code 72 = .ok (.iload_n 0, 1)) ∧ (decode prog_8_method_18_code 73 = .ok (.bipush 7, 2)) ∧ (decode prog_8_method_18_code 75 = .ok (.if_icmp .ne 7, 3)) ∧ (decode prog_8_method_18_code 78 = .ok (.iconst 1, 1)) ∧ (decode prog_8_method_18_code 79 = .ok (.goto 4, 3)) ∧ (decode prog_8_method_18_code 82 = .ok (.iconst 0, 1)) ∧ (decode prog_8_method_18_code 83 = .ok (.istore 5, 2)) ∧ (decode prog_8_method_18_code 85 = .ok (.iload_n 1, 1)) ∧ (decode prog_8_method_18_code 86 = .ok (.iload_n 2, 1)) ∧ (decode prog_8_method_18_code 87 = .ok (.if_icmp .ge 7, 3)) ∧ (decode prog_8_method_18_code 90 = .ok (.iload_n 3, 1)) ∧ (decode prog_8_method_18_code 91 = .ok (.goto 15, 3)) ∧ (decode prog_8_method_18_code 94 = .ok (.iload_n 1, 1)) ∧ (decode prog_8_method_18_code 95 = .ok (.iload_n 2, 1)) ∧ (decode prog_8_method_18_code 96 = .ok (.if_icmp .le 8, 3)) ∧ (decode prog_8_method_18_code 99 = .ok (.iload 5, 2)) ∧ (decode prog_8_method_18_code 101 = .ok (.goto 5, 3)) ∧ (decode prog_8_method_18_code 104 = .ok (.iload 4, 2)) ∧ (decode prog_8_method_18_code 106 = .ok (.ireturn, 1)) :=
  ⟨by decide +kernel, by decide +kernel, by decide +kernel, by decide +kernel, by decide +kernel, by decide +kernel, by decide +kernel, by decide +kernel, by decide +kernel, by decide +kernel, by decide +kernel, by decide +kernel, by decide +kernel, by decide +kernel, by decide +kernel, by decide +kernel, by decide +kernel, by decide +kernel, by decide +kernel, by decide +kernel, by decide +kernel, by decide +kernel, by decide +kernel, by decide +kernel, by decide +kernel, by decide +kernel, by decide +kernel, by decide +kernel, by decide +kernel, by decide +kernel, by decide +kernel, by decide +kernel, by decide +kernel, by decide +kernel, by decide +kernel, by decide +kernel, by decide +kernel, by decide +kernel, by decide +kernel, by decide +kernel, by decide +kernel, by decide +kernel, by decide +kernel, by decide +kernel, by decide +kernel, by decide +kernel, by decide +kernel, by decide +kernel, by decide +kernel, by decide +kernel, by decide +kernel, by decide +kernel, by decide +kernel, by decide +kernel, by decide +kernel, by decide +kernel, by decide +kernel, by decide +kernel, by decide +kernel, by decide +kernel⟩
def y_MO_act : MethodName := ⟨"PlaceTestsModel", "act", "(III)V"⟩
theorem D_MO_act : (decode prog_8_method_20_code 0 = .ok (.bipush 7, 2)) ∧ (decode prog_8_method_20_code 2 = .ok (.iload_n 2, 1)) ∧ (decode prog_8_method_20_code 3 = .ok (.imul, 1)) ∧ (decode prog_8_method_20_code 4 = .ok (.istore 4, 2)) ∧ (decode prog_8_method_20_code 6 = .ok (.aload_n 0, 1)) ∧ (decode prog_8_method_20_code 7 = .ok (.getfield 32, 3)) ∧ (decode prog_8_method_20_code 10 = .ok (.iload 4, 2)) ∧ (decode prog_8_method_20_code 12 = .ok (.iaload, 1)) ∧ (decode prog_8_method_20_code 13 = .ok (.ifCond .lt 44, 3)) ∧ (decode prog_8_method_20_code 16 = .ok (.aload_n 0, 1)) ∧ (decode prog_8_method_20_code 17 = .ok (.iload_n 1, 1)) ∧ (decode prog_8_method_20_code 18 = .ok (.aload_n 0, 1)) ∧ (decode prog_8_method_20_code 19 = .ok (.getfield 32, 3)) ∧ (decode prog_8_method_20_code 22 = .ok (.iload 4, 2)) ∧ (decode prog_8_method_20_code 24 = .ok (.iload_n 3, 1)) ∧ (decode prog_8_method_20_code 25 = .ok (.iadd, 1)) ∧ (decode prog_8_method_20_code 26 = .ok (.iaload, 1)) ∧ (decode prog_8_method_20_code 27 = .ok (.aload_n 0, 1)) ∧ (decode prog_8_method_20_code 28 = .ok (.getfield 23, 3)) ∧ (decode prog_8_method_20_code 31 = .ok (.iload_n 1, 1)) ∧ (decode prog_8_method_20_code 32 = .ok (.iaload, 1)) ∧ (decode prog_8_method_20_code 33 = .ok (.aload_n 0, 1)) ∧ (decode prog_8_method_20_code 34 = .ok (.getfield 32, 3)) ∧ (decode prog_8_method_20_code 37 = .ok (.iload 4, 2)) ∧ (decode prog_8_method_20_code 39 = .ok (.iconst 1, 1)) ∧ (decode prog_8_method_20_code 40 = .ok (.iadd, 1)) ∧ (decode prog_8_method_20_code 41 = .ok (.iaload, 1)) ∧ (decode prog_8_method_20_code 42 = .ok (.invokestatic 102, 3)) ∧ (decode prog_8_method_20_code 45 = .ok (.aload_n 0, 1)) ∧ (decode prog_8_method_20_code 46 = .ok (.getfield 32, 3)) ∧ (decode prog_8_method_20_code 49 = .ok (.iload 4, 2)) ∧ (decode prog_8_method_20_code 51 = .ok (.iconst 3, 1)) ∧ (decode prog_8_method_20_code 52 = .ok (.iadd, 1)) ∧ (decode prog_8_method_20_code 53 = .ok (.iaload, 1)) ∧ (decode prog_8_method_20_code 54 = .ok (.invokevirtual 98, 3)) ∧ (decode prog_8_method_20_code 57 = .ok (.return_, 1)) :=
  ⟨by decide +kernel, by decide +kernel, by decide +kernel, by decide +kernel, by decide +kernel, by decide +kernel, by decide +kernel, by decide +kernel, by decide +kernel, by decide +kernel, by decide +kernel, by decide +kernel, by decide +kernel, by decide +kernel, by decide +kernel, by decide +kernel, by decide +kernel, by decide +kernel, by decide +kernel, by decide +kernel, by decide +kernel, by decide +kernel, by decide +kernel, by decide +kernel, by decide +kernel, by decide +kernel, by decide +kernel, by decide +kernel, by decide +kernel, by decide +kernel, by decide +kernel, by decide +kernel, by decide +kernel, by decide +kernel, by decide +kernel, by decide +kernel⟩
def y_MO_deed : MethodName := ⟨"PlaceTestsModel", "deed", "(III)I"⟩
theorem D_MO_deed : (decode prog_8_method_19_code 0 = .ok (.iload_n 0, 1)) ∧ (decode prog_8_method_19_code 1 = .ok (.tableswitch 99 0 6 #[43, 45, 47, 49, 66, 78, 84], 43)) ∧ (decode prog_8_method_19_code 44 = .ok (.iload_n 1, 1)) ∧ (decode prog_8_method_19_code 45 = .ok (.ireturn, 1)) ∧ (decode prog_8_method_19_code 46 = .ok (.iconst 0, 1)) ∧ (decode prog_8_method_19_code 47 = .ok (.ireturn, 1)) ∧ (decode prog_8_method_19_code 48 = .ok (.iload_n 2, 1)) ∧ (decode prog_8_method_19_code 49 = .ok (.ireturn, 1)) ∧ (decode prog_8_method_19_code 50 = .ok (.iload_n 1, 1)) ∧ (decode prog_8_method_19_code 51 = .ok (.sipush 255, 3)) ∧ (decode prog_8_method_19_code 54 = .ok (.if_icmp .ne 9, 3)) ∧ (decode prog_8_method_19_code 57 = .ok (.sipush 255, 3)) ∧ (decode prog_8_method_19_code 60 = .ok (.goto 6, 3)) ∧ (decode prog_8_method_19_code 63 = .ok (.iload_n 1, 1)) ∧ (decode prog_8_method_19_code 64 = .ok (.iconst 1, 1)) ∧ (decode prog_8_method_19_code 65 = .ok (.iadd, 1)) ∧ (decode prog_8_method_19_code 66 = .ok (.ireturn, 1)) ∧ (decode prog_8_method_19_code 67 = .ok (.iload_n 1, 1)) ∧ (decode prog_8_method_19_code 68 = .ok (.ifCond .ne 7, 3)) ∧ (decode prog_8_method_19_code 71 = .ok (.iconst 0, 1)) ∧ (decode prog_8_method_19_code 72 = .ok (.goto 6, 3)) ∧ (decode prog_8_method_19_code 75 = .ok (.iload_n 1, 1)) ∧ (decode prog_8_method_19_code 76 = .ok (.iconst 1, 1)) ∧ (decode prog_8_method_19_code 77 = .ok (.isub, 1)) ∧ (decode prog_8_method_19_code 78 = .ok (.ireturn, 1)) ∧ (decode prog_8_method_19_code 79 = .ok (.sipush 255, 3)) ∧ (decode prog_8_method_19_code 82 = .ok (.iload_n 1, 1)) ∧ (decode prog_8_method_19_code 83 = .ok (.isub, 1)) ∧ (decode prog_8_method_19_code 84 = .ok (.ireturn, 1)) ∧ (decode prog_8_method_19_code 85 = .ok (.iload_n 1, 1)) ∧ (decode prog_8_method_19_code 86 = .ok (.sipush 255, 3)) ∧ (decode prog_8_method_19_code 89 = .ok (.if_icmp .ne 7, 3)) ∧ (decode prog_8_method_19_code 92 = .ok (.iconst 0, 1)) ∧ (decode prog_8_method_19_code 93 = .ok (.goto 6, 3)) ∧ (decode prog_8_method_19_code 96 = .ok (.iload_n 1, 1)) ∧ (decode prog_8_method_19_code 97 = .ok (.iconst 1, 1)) ∧ (decode prog_8_method_19_code 98 = .ok (.iadd, 1)) ∧ (decode prog_8_method_19_code 99 = .ok (.ireturn, 1)) ∧ (decode prog_8_method_19_code 100 = .ok (.iload_n 1, 1)) ∧ (decode prog_8_method_19_code 101 = .ok (.ifCond .ne 9, 3)) ∧ (decode prog_8_method_19_code 104 = .ok (.sipush 255, 3)) ∧ (decode prog_8_method_19_code 107 = .ok (.goto 6, 3)) ∧ (decode prog_8_method_19_code 110 = .ok (.iload_n 1, 1)) ∧ (decode prog_8_method_19_code 111 = .ok (.iconst 1, 1)) ∧ (decode prog_8_method_19_code 112 = .ok (.isub, 1)) ∧ (decode prog_8_method_19_code 113 = .ok (.ireturn, 1)) :=
  ⟨by decide +kernel, by decide +kernel, by decide +kernel, by decide +kernel, by decide +kernel, by decide +kernel, by decide +kernel, by decide +kernel, by decide +kernel, by decide +kernel, by decide +kernel, by decide +kernel, by decide +kernel, by decide +kernel, by decide +kernel, by decide +kernel, by decide +kernel, by decide +kernel, by decide +kernel, by decide +kernel, by decide +kernel, by decide +kernel, by decide +kernel, by decide +kernel, by decide +kernel, by decide +kernel, by decide +kernel, by decide +kernel, by decide +kernel, by decide +kernel, by decide +kernel, by decide +kernel, by decide +kernel, by decide +kernel, by decide +kernel, by decide +kernel, by decide +kernel, by decide +kernel, by decide +kernel, by decide +kernel, by decide +kernel, by decide +kernel, by decide +kernel, by decide +kernel, by decide +kernel, by decide +kernel⟩
def y_MO_byteOf : MethodName := ⟨"PlaceTestsModel", "byteOf", "(I)I"⟩
theorem D_MO_byteOf : (decode prog_8_method_21_code 0 = .ok (.iload_n 0, 1)) ∧ (decode prog_8_method_21_code 1 = .ok (.ifCond .ge 7, 3)) ∧ (decode prog_8_method_21_code 4 = .ok (.iconst 0, 1)) ∧ (decode prog_8_method_21_code 5 = .ok (.goto 15, 3)) ∧ (decode prog_8_method_21_code 8 = .ok (.iload_n 0, 1)) ∧ (decode prog_8_method_21_code 9 = .ok (.ldc 106, 2)) ∧ (decode prog_8_method_21_code 11 = .ok (.if_icmp .le 8, 3)) ∧ (decode prog_8_method_21_code 14 = .ok (.ldc 106, 2)) ∧ (decode prog_8_method_21_code 16 = .ok (.goto 4, 3)) ∧ (decode prog_8_method_21_code 19 = .ok (.iload_n 0, 1)) ∧ (decode prog_8_method_21_code 20 = .ok (.istore_n 1, 1)) ∧ (decode prog_8_method_21_code 21 = .ok (.sipush 255, 3)) ∧ (decode prog_8_method_21_code 24 = .ok (.iload_n 1, 1)) ∧ (decode prog_8_method_21_code 25 = .ok (.imul, 1)) ∧ (decode prog_8_method_21_code 26 = .ok (.ldc 107, 2)) ∧ (decode prog_8_method_21_code 28 = .ok (.iadd, 1)) ∧ (decode prog_8_method_21_code 29 = .ok (.ldc 106, 2)) ∧ (decode prog_8_method_21_code 31 = .ok (.idiv, 1)) ∧ (decode prog_8_method_21_code 32 = .ok (.ireturn, 1)) :=
  ⟨by decide +kernel, by decide +kernel, by decide +kernel, by decide +kernel, by decide +kernel, by decide +kernel, by decide +kernel, by decide +kernel, by decide +kernel, by decide +kernel, by decide +kernel, by decide +kernel, by decide +kernel, by decide +kernel, by decide +kernel, by decide +kernel, by decide +kernel, by decide +kernel, by decide +kernel⟩
def y_MO_bits : MethodName := ⟨"PlaceTestsModel", "bits", "(I)I"⟩
theorem D_MO_bits : (decode prog_8_method_25_code 0 = .ok (.iconst 0, 1)) ∧ (decode prog_8_method_25_code 1 = .ok (.istore_n 2, 1)) ∧ (decode prog_8_method_25_code 2 = .ok (.iconst 0, 1)) ∧ (decode prog_8_method_25_code 3 = .ok (.istore_n 3, 1)) ∧ (decode prog_8_method_25_code 4 = .ok (.iload_n 3, 1)) ∧ (decode prog_8_method_25_code 5 = .ok (.bipush 8, 2)) ∧ (decode prog_8_method_25_code 7 = .ok (.if_icmp .ge 48, 3)) ∧ (decode prog_8_method_25_code 10 = .ok (.iconst 2, 1)) ∧ (decode prog_8_method_25_code 11 = .ok (.aload_n 0, 1)) ∧ (decode prog_8_method_25_code 12 = .ok (.getfield 53, 3)) ∧ (decode prog_8_method_25_code 15 = .ok (.iload_n 1, 1)) ∧ (decode prog_8_method_25_code 16 = .ok (.iaload, 1)) ∧ (decode prog_8_method_25_code 17 = .ok (.iload_n 3, 1)) ∧ (decode prog_8_method_25_code 18 = .ok (.ishr, 1)) ∧ (decode prog_8_method_25_code 19 = .ok (.iconst 1, 1)) ∧ (decode prog_8_method_25_code 20 = .ok (.iand, 1)) ∧ (decode prog_8_method_25_code 21 = .ok (.imul, 1)) ∧ (decode prog_8_method_25_code 22 = .ok (.aload_n 0, 1)) ∧ (decode prog_8_method_25_code 23 = .ok (.getfield 56, 3)) ∧ (decode prog_8_method_25_code 26 = .ok (.iload_n 1, 1)) ∧ (decode prog_8_method_25_code 27 = .ok (.iaload, 1)) ∧ (decode prog_8_method_25_code 28 = .ok (.iload_n 3, 1)) ∧ (decode prog_8_method_25_code 29 = .ok (.ishr, 1)) ∧ (decode prog_8_method_25_code 30 = .ok (.iconst 1, 1)) ∧ (decode prog_8_method_25_code 31 = .ok (.iand, 1)) ∧ (decode prog_8_method_25_code 32 = .ok (.iadd, 1)) ∧ (decode prog_8_method_25_code 33 = .ok (.istore 4, 2)) ∧ (decode prog_8_method_25_code 35 = .ok (.iload_n 2, 1)) ∧ (decode prog_8_method_25_code 36 = .ok (.aload_n 0, 1)) ∧ (decode prog_8_method_25_code 37 = .ok (.getfield 44, 3)) ∧ (decode prog_8_method_25_code 40 = .ok (.iload 4, 2)) ∧ (decode prog_8_method_25_code 42 = .ok (.ishr, 1)) ∧ (decode prog_8_method_25_code 43 = .ok (.iconst 1, 1)) ∧ (decode prog_8_method_25_code 44 = .ok (.iand, 1)) ∧ (decode prog_8_method_25_code 45 = .ok (.iload_n 3, 1)) ∧ (decode prog_8_method_25_code 46 = .ok (.ishl, 1)) ∧ (decode prog_8_method_25_code 47 = .ok (.ior, 1)) ∧ (decode prog_8_method_25_code 48 = .ok (.istore_n 2, 1)) ∧ (decode prog_8_method_25_code 49 = .ok (.iinc 3 1, 3)) ∧ (decode prog_8_method_25_code 52 = .ok (.goto (-48), 3)) ∧ (decode prog_8_method_25_code 55 = .ok (.iload_n 2, 1)) ∧ (decode prog_8_method_25_code 56 = .ok (.ireturn, 1)) :=
  ⟨by decide +kernel, by decide +kernel, by decide +kernel, by decide +kernel, by decide +kernel, by decide +kernel, by decide +kernel, by decide +kernel, by decide +kernel, by decide +kernel, by decide +kernel, by decide +kernel, by decide +kernel, by decide +kernel, by decide +kernel, by decide +kernel, by decide +kernel, by decide +kernel, by decide +kernel, by decide +kernel, by decide +kernel, by decide +kernel, by decide +kernel, by decide +kernel, by decide +kernel, by decide +kernel, by decide +kernel, by decide +kernel, by decide +kernel, by decide +kernel, by decide +kernel, by decide +kernel, by decide +kernel, by decide +kernel, by decide +kernel, by decide +kernel, by decide +kernel, by decide +kernel, by decide +kernel, by decide +kernel, by decide +kernel, by decide +kernel⟩
def y_MO_blended : MethodName := ⟨"PlaceTestsModel", "blended", "(I)I"⟩
theorem D_MO_blended_0 : (decode prog_8_method_24_code 0 = .ok (.iload_n 1, 1)) ∧ (decode prog_8_method_24_code 1 = .ok (.iconst 3, 1)) ∧ (decode prog_8_method_24_code 2 = .ok (.if_icmp .ne 7, 3)) ∧ (decode prog_8_method_24_code 5 = .ok (.iconst 2, 1)) ∧ (decode prog_8_method_24_code 6 = .ok (.goto 4, 3)) ∧ (decode prog_8_method_24_code 9 = .ok (.iconst 0, 1)) ∧ (decode prog_8_method_24_code 10 = .ok (.istore_n 2, 1)) ∧ (decode prog_8_method_24_code 11 = .ok (.iload_n 1, 1)) ∧ (decode prog_8_method_24_code 12 = .ok (.iconst 3, 1)) ∧ (decode prog_8_method_24_code 13 = .ok (.if_icmp .ne 10, 3)) ∧ (decode prog_8_method_24_code 16 = .ok (.aload_n 0, 1)) ∧ (decode prog_8_method_24_code 17 = .ok (.getfield 83, 3)) ∧ (decode prog_8_method_24_code 20 = .ok (.goto 7, 3)) ∧ (decode prog_8_method_24_code 23 = .ok (.aload_n 0, 1)) ∧ (decode prog_8_method_24_code 24 = .ok (.getfield 38, 3)) ∧ (decode prog_8_method_24_code 27 = .ok (.istore_n 3, 1)) ∧ (decode prog_8_method_24_code 28 = .ok (.aload_n 0, 1)) ∧ (decode prog_8_method_24_code 29 = .ok (.getfield 53, 3)) ∧ (decode prog_8_method_24_code 32 = .ok (.iload_n 1, 1)) ∧ (decode prog_8_method_24_code 33 = .ok (.iaload, 1)) ∧ (decode prog_8_method_24_code 34 = .ok (.aload_n 0, 1)) ∧ (decode prog_8_method_24_code 35 = .ok (.aload_n 0, 1)) ∧ (decode prog_8_method_24_code 36 = .ok (.getfield 35, 3)) ∧ (decode prog_8_method_24_code 39 = .ok (.iload_n 2, 1)) ∧ (decode prog_8_method_24_code 40 = .ok (.iaload, 1)) ∧ (decode prog_8_method_24_code 41 = .ok (.iload_n 1, 1)) ∧ (decode prog_8_method_24_code 42 = .ok (.invokevirtual 108, 3)) ∧ (decode prog_8_method_24_code 45 = .ok (.imul, 1)) ∧ (decode prog_8_method_24_code 46 = .ok (.istore 4, 2)) ∧ (decode prog_8_method_24_code 48 = .ok (.aload_n 0, 1)) ∧ (decode prog_8_method_24_code 49 = .ok (.getfield 56, 3)) ∧ (decode prog_8_method_24_code 52 = .ok (.iload_n 1, 1)) ∧ (decode prog_8_method_24_code 53 = .ok (.iaload, 1)) ∧ (decode prog_8_method_24_code 54 = .ok (.aload_n 0, 1)) ∧ (decode prog_8_method_24_code 55 = .ok (.aload_n 0, 1)) ∧ (decode prog_8_method_24_code 56 = .ok (.getfield 35, 3)) ∧ (decode prog_8_method_24_code 59 = .ok (.iload_n 2, 1)) ∧ (decode prog_8_method_24_code 60 = .ok (.iconst 1, 1)) ∧ (decode prog_8_method_24_code 61 = .ok (.iadd, 1)) ∧ (decode prog_8_method_24_code 62 = .ok (.iaload, 1)) ∧ (decode prog_8_method_24_code 63 = .ok (.iload_n 1, 1)) ∧ (decode prog_8_method_24_code 64 = .ok (.invokevirtual 108, 3)) ∧ (decode prog_8_method_24_code 67 = .ok (.imul, 1)) ∧ (decode prog_8_method_24_code 68 = .ok (.istore 5, 2)) ∧ (decode prog_8_method_24_code 70 = .ok (.iload_n 3, 1)) ∧ (decode prog_8_method_24_code 71 = .ok (.tableswitch 87 0 3 #[29, 38, 47, 56], 29)) ∧ (decode prog_8_method_24_code 100 = .ok (.iload 4, 2)) ∧ (decode prog_8_method_24_code 102 = .ok (.iload 5, 2)) ∧ (decode prog_8_method_24_code 104 = .ok (.iadd, 1)) ∧ (decode prog_8_method_24_code 105 = .ok (.invokestatic 111, 3)) ∧ (decode prog_8_method_24_code 108 = .ok (.ireturn, 1)) ∧ (decode prog_8_method_24_code 109 = .ok (.iload 4, 2)) ∧ (decode prog_8_method_24_code 111 = .ok (.iload 5, 2)) ∧ (decode prog_8_method_24_code 113 = .ok (.isub, 1)) ∧ (decode prog_8_method_24_code 114 = .ok (.invokestatic 111, 3)) ∧ (decode prog_8_method_24_code 117 = .ok (.ireturn, 1)) ∧ (decode prog_8_method_24_code 118 = .ok (.iload 5, 2)) ∧ (decode prog_8_method_24_code 120 = .ok (.iload 4, 2)) ∧ (decode prog_8_method_24_code 122 = .ok (.isub, 1)) ∧ (decode prog_8_method_24_code 123 = .ok (.invokestatic 111, 3)) :=
  ⟨by decide +kernel, by decide +kernel, by decide +kernel, by decide +kernel, by decide +kernel, by decide +kernel, by decide +kernel, by decide +kernel, by decide +kernel, by decide +kernel, by decide +kernel, by decide +kernel, by decide +kernel, by decide +kernel, by decide +kernel, by decide +kernel, by decide +kernel, by decide +kernel, by decide +kernel, by decide +kernel, by decide +kernel, by decide +kernel, by decide +kernel, by decide +kernel, by decide +kernel, by decide +kernel, by decide +kernel, by decide +kernel, by decide +kernel, by decide +kernel, by decide +kernel, by decide +kernel, by decide +kernel, by decide +kernel, by decide +kernel, by decide +kernel, by decide +kernel, by decide +kernel, by decide +kernel, by decide +kernel, by decide +kernel, by decide +kernel, by decide +kernel, by decide +kernel, by decide +kernel, by decide +kernel, by decide +kernel, by decide +kernel, by decide +kernel, by decide +kernel, by decide +kernel, by decide +kernel, by decide +kernel, by decide +kernel, by decide +kernel, by decide +kernel, by decide +kernel, by decide +kernel, by decide +kernel, by decide +kernel⟩
theorem D_MO_blended_1 : (decode prog_8_method_24_code 126 = .ok (.ireturn, 1)) ∧ (decode prog_8_method_24_code 127 = .ok (.aload_n 0, 1)) ∧ (decode prog_8_method_24_code 128 = .ok (.getfield 53, 3)) ∧ (decode prog_8_method_24_code 131 = .ok (.iload_n 1, 1)) ∧ (decode prog_8_method_24_code 132 = .ok (.iaload, 1)) ∧ (decode prog_8_method_24_code 133 = .ok (.aload_n 0, 1)) ∧ (decode prog_8_method_24_code 134 = .ok (.getfield 56, 3)) ∧ (decode prog_8_method_24_code 137 = .ok (.iload_n 1, 1)) ∧ (decode prog_8_method_24_code 138 = .ok (.iaload, 1)) ∧ (decode prog_8_method_24_code 139 = .ok (.if_icmp .ge 12, 3)) ∧ (decode prog_8_method_24_code 142 = .ok (.aload_n 0, 1)) ∧ (decode prog_8_method_24_code 143 = .ok (.getfield 53, 3)) ∧ (decode prog_8_method_24_code 146 = .ok (.iload_n 1, 1)) ∧ (decode prog_8_method_24_code 147 = .ok (.iaload, 1)) ∧ (decode prog_8_method_24_code 148 = .ok (.goto 9, 3)) ∧ (decode prog_8_method_24_code 151 = .ok (.aload_n 0, 1)) ∧ (decode prog_8_method_24_code 152 = .ok (.getfield 56, 3)) ∧ (decode prog_8_method_24_code 155 = .ok (.iload_n 1, 1)) ∧ (decode prog_8_method_24_code 156 = .ok (.iaload, 1)) ∧ (decode prog_8_method_24_code 157 = .ok (.ireturn, 1)) ∧ (decode prog_8_method_24_code 158 = .ok (.aload_n 0, 1)) ∧ (decode prog_8_method_24_code 159 = .ok (.getfield 53, 3)) ∧ (decode prog_8_method_24_code 162 = .ok (.iload_n 1, 1)) ∧ (decode prog_8_method_24_code 163 = .ok (.iaload, 1)) ∧ (decode prog_8_method_24_code 164 = .ok (.aload_n 0, 1)) ∧ (decode prog_8_method_24_code 165 = .ok (.getfield 56, 3)) ∧ (decode prog_8_method_24_code 168 = .ok (.iload_n 1, 1)) ∧ (decode prog_8_method_24_code 169 = .ok (.iaload, 1)) ∧ (decode prog_8_method_24_code 170 = .ok (.if_icmp .le 12, 3)) ∧ (decode prog_8_method_24_code 173 = .ok (.aload_n 0, 1)) ∧ (decode prog_8_method_24_code 174 = .ok (.getfield 53, 3)) ∧ (decode prog_8_method_24_code 177 = .ok (.iload_n 1, 1)) ∧ (decode prog_8_method_24_code 178 = .ok (.iaload, 1)) ∧ (decode prog_8_method_24_code 179 = .ok (.goto 9, 3)) ∧ (decode prog_8_method_24_code 182 = .ok (.aload_n 0, 1)) ∧ (decode prog_8_method_24_code 183 = .ok (.getfield 56, 3)) ∧ (decode prog_8_method_24_code 186 = .ok (.iload_n 1, 1)) ∧ (decode prog_8_method_24_code 187 = .ok (.iaload, 1)) ∧ (decode prog_8_method_24_code 188 = .ok (.ireturn, 1)) :=
  ⟨by decide +kernel, by decide +kernel, by decide +kernel, by decide +kernel, by decide +kernel, by decide +kernel, by decide +kernel, by decide +kernel, by decide +kernel, by decide +kernel, by decide +kernel, by decide +kernel, by decide +kernel, by decide +kernel, by decide +kernel, by decide +kernel, by decide +kernel, by decide +kernel, by decide +kernel, by decide +kernel, by decide +kernel, by decide +kernel, by decide +kernel, by decide +kernel, by decide +kernel, by decide +kernel, by decide +kernel, by decide +kernel, by decide +kernel, by decide +kernel, by decide +kernel, by decide +kernel, by decide +kernel, by decide +kernel, by decide +kernel, by decide +kernel, by decide +kernel, by decide +kernel, by decide +kernel⟩
def y_MO_factor : MethodName := ⟨"PlaceTestsModel", "factor", "(II)I"⟩
theorem D_MO_factor_0 : (decode prog_8_method_22_code 0 = .ok (.iload_n 1, 1)) ∧ (decode prog_8_method_22_code 1 = .ok (.tableswitch 185 0 13 #[71, 73, 77, 84, 95, 102, 113, 120, 131, 138, 149, 156, 167, 174], 71)) ∧ (decode prog_8_method_22_code 72 = .ok (.iconst 0, 1)) ∧ (decode prog_8_method_22_code 73 = .ok (.ireturn, 1)) ∧ (decode prog_8_method_22_code 74 = .ok (.sipush 255, 3)) ∧ (decode prog_8_method_22_code 77 = .ok (.ireturn, 1)) ∧ (decode prog_8_method_22_code 78 = .ok (.aload_n 0, 1)) ∧ (decode prog_8_method_22_code 79 = .ok (.getfield 53, 3)) ∧ (decode prog_8_method_22_code 82 = .ok (.iload_n 2, 1)) ∧ (decode prog_8_method_22_code 83 = .ok (.iaload, 1)) ∧ (decode prog_8_method_22_code 84 = .ok (.ireturn, 1)) ∧ (decode prog_8_method_22_code 85 = .ok (.sipush 255, 3)) ∧ (decode prog_8_method_22_code 88 = .ok (.aload_n 0, 1)) ∧ (decode prog_8_method_22_code 89 = .ok (.getfield 53, 3)) ∧ (decode prog_8_method_22_code 92 = .ok (.iload_n 2, 1)) ∧ (decode prog_8_method_22_code 93 = .ok (.iaload, 1)) ∧ (decode prog_8_method_22_code 94 = .ok (.isub, 1)) ∧ (decode prog_8_method_22_code 95 = .ok (.ireturn, 1)) ∧ (decode prog_8_method_22_code 96 = .ok (.aload_n 0, 1)) ∧ (decode prog_8_method_22_code 97 = .ok (.getfield 56, 3)) ∧ (decode prog_8_method_22_code 100 = .ok (.iload_n 2, 1)) ∧ (decode prog_8_method_22_code 101 = .ok (.iaload, 1)) ∧ (decode prog_8_method_22_code 102 = .ok (.ireturn, 1)) ∧ (decode prog_8_method_22_code 103 = .ok (.sipush 255, 3)) ∧ (decode prog_8_method_22_code 106 = .ok (.aload_n 0, 1)) ∧ (decode prog_8_method_22_code 107 = .ok (.getfield 56, 3)) ∧ (decode prog_8_method_22_code 110 = .ok (.iload_n 2, 1)) ∧ (decode prog_8_method_22_code 111 = .ok (.iaload, 1)) ∧ (decode prog_8_method_22_code 112 = .ok (.isub, 1)) ∧ (decode prog_8_method_22_code 113 = .ok (.ireturn, 1)) ∧ (decode prog_8_method_22_code 114 = .ok (.aload_n 0, 1)) ∧ (decode prog_8_method_22_code 115 = .ok (.getfield 53, 3)) ∧ (decode prog_8_method_22_code 118 = .ok (.iconst 3, 1)) ∧ (decode prog_8_method_22_code 119 = .ok (.iaload, 1)) ∧ (decode prog_8_method_22_code 120 = .ok (.ireturn, 1)) ∧ (decode prog_8_method_22_code 121 = .ok (.sipush 255, 3)) ∧ (decode prog_8_method_22_code 124 = .ok (.aload_n 0, 1)) ∧ (decode prog_8_method_22_code 125 = .ok (.getfield 53, 3)) ∧ (decode prog_8_method_22_code 128 = .ok (.iconst 3, 1)) ∧ (decode prog_8_method_22_code 129 = .ok (.iaload, 1)) ∧ (decode prog_8_method_22_code 130 = .ok (.isub, 1)) ∧ (decode prog_8_method_22_code 131 = .ok (.ireturn, 1)) ∧ (decode prog_8_method_22_code 132 = .ok (.aload_n 0, 1)) ∧ (decode prog_8_method_22_code 133 = .ok (.getfield 56, 3)) ∧ (decode prog_8_method_22_code 136 = .ok (.iconst 3, 1)) ∧ (decode prog_8_method_22_code 137 = .ok (.iaload, 1)) ∧ (decode prog_8_method_22_code 138 = .ok (.ireturn, 1)) ∧ (decode prog_8_method_22_code 139 = .ok (.sipush 255, 3)) ∧ (decode prog_8_method_22_code 142 = .ok (.aload_n 0, 1)) ∧ (decode prog_8_method_22_code 143 = .ok (.getfield 56, 3)) ∧ (decode prog_8_method_22_code 146 = .ok (.iconst 3, 1)) ∧ (decode prog_8_method_22_code 147 = .ok (.iaload, 1)) ∧ (decode prog_8_method_22_code 148 = .ok (.isub, 1)) ∧ (decode prog_8_method_22_code 149 = .ok (.ireturn, 1)) ∧ (decode prog_8_method_22_code 150 = .ok (.aload_n 0, 1)) ∧ (decode prog_8_method_22_code 151 = .ok (.getfield 41, 3)) ∧ (decode prog_8_method_22_code 154 = .ok (.iload_n 2, 1)) ∧ (decode prog_8_method_22_code 155 = .ok (.iaload, 1)) ∧ (decode prog_8_method_22_code 156 = .ok (.ireturn, 1)) ∧ (decode prog_8_method_22_code 157 = .ok (.sipush 255, 3)) :=
  ⟨by decide +kernel, by decide +kernel, by decide +kernel, by decide +kernel, by decide +kernel, by decide +kernel, by decide +kernel, by decide +kernel, by decide +kernel, by decide +kernel, by decide +kernel, by decide +kernel, by decide +kernel, by decide +kernel, by decide +kernel, by decide +kernel, by decide +kernel, by decide +kernel, by decide +kernel, by decide +kernel, by decide +kernel, by decide +kernel, by decide +kernel, by decide +kernel, by decide +kernel, by decide +kernel, by decide +kernel, by decide +kernel, by decide +kernel, by decide +kernel, by decide +kernel, by decide +kernel, by decide +kernel, by decide +kernel, by decide +kernel, by decide +kernel, by decide +kernel, by decide +kernel, by decide +kernel, by decide +kernel, by decide +kernel, by decide +kernel, by decide +kernel, by decide +kernel, by decide +kernel, by decide +kernel, by decide +kernel, by decide +kernel, by decide +kernel, by decide +kernel, by decide +kernel, by decide +kernel, by decide +kernel, by decide +kernel, by decide +kernel, by decide +kernel, by decide +kernel, by decide +kernel, by decide +kernel, by decide +kernel⟩
theorem D_MO_factor_1 : (decode prog_8_method_22_code 160 = .ok (.aload_n 0, 1)) ∧ (decode prog_8_method_22_code 161 = .ok (.getfield 41, 3)) ∧ (decode prog_8_method_22_code 164 = .ok (.iload_n 2, 1)) ∧ (decode prog_8_method_22_code 165 = .ok (.iaload, 1)) ∧ (decode prog_8_method_22_code 166 = .ok (.isub, 1)) ∧ (decode prog_8_method_22_code 167 = .ok (.ireturn, 1)) ∧ (decode prog_8_method_22_code 168 = .ok (.aload_n 0, 1)) ∧ (decode prog_8_method_22_code 169 = .ok (.getfield 41, 3)) ∧ (decode prog_8_method_22_code 172 = .ok (.iconst 3, 1)) ∧ (decode prog_8_method_22_code 173 = .ok (.iaload, 1)) ∧ (decode prog_8_method_22_code 174 = .ok (.ireturn, 1)) ∧ (decode prog_8_method_22_code 175 = .ok (.sipush 255, 3)) ∧ (decode prog_8_method_22_code 178 = .ok (.aload_n 0, 1)) ∧ (decode prog_8_method_22_code 179 = .ok (.getfield 41, 3)) ∧ (decode prog_8_method_22_code 182 = .ok (.iconst 3, 1)) ∧ (decode prog_8_method_22_code 183 = .ok (.iaload, 1)) ∧ (decode prog_8_method_22_code 184 = .ok (.isub, 1)) ∧ (decode prog_8_method_22_code 185 = .ok (.ireturn, 1)) ∧ (decode prog_8_method_22_code 186 = .ok (.iload_n 2, 1)) ∧ (decode prog_8_method_22_code 187 = .ok (.iconst 3, 1)) ∧ (decode prog_8_method_22_code 188 = .ok (.if_icmp .ne 9, 3)) ∧ (decode prog_8_method_22_code 191 = .ok (.sipush 255, 3)) ∧ (decode prog_8_method_22_code 194 = .ok (.goto 41, 3)) ∧ (decode prog_8_method_22_code 197 = .ok (.aload_n 0, 1)) ∧ (decode prog_8_method_22_code 198 = .ok (.getfield 53, 3)) ∧ (decode prog_8_method_22_code 201 = .ok (.iconst 3, 1)) ∧ (decode prog_8_method_22_code 202 = .ok (.iaload, 1)) ∧ (decode prog_8_method_22_code 203 = .ok (.sipush 255, 3)) ∧ (decode prog_8_method_22_code 206 = .ok (.aload_n 0, 1)) ∧ (decode prog_8_method_22_code 207 = .ok (.getfield 56, 3)) ∧ (decode prog_8_method_22_code 210 = .ok (.iconst 3, 1)) ∧ (decode prog_8_method_22_code 211 = .ok (.iaload, 1)) ∧ (decode prog_8_method_22_code 212 = .ok (.isub, 1)) ∧ (decode prog_8_method_22_code 213 = .ok (.if_icmp .ge 12, 3)) ∧ (decode prog_8_method_22_code 216 = .ok (.aload_n 0, 1)) ∧ (decode prog_8_method_22_code 217 = .ok (.getfield 53, 3)) ∧ (decode prog_8_method_22_code 220 = .ok (.iconst 3, 1)) ∧ (decode prog_8_method_22_code 221 = .ok (.iaload, 1)) ∧ (decode prog_8_method_22_code 222 = .ok (.goto 13, 3)) ∧ (decode prog_8_method_22_code 225 = .ok (.sipush 255, 3)) ∧ (decode prog_8_method_22_code 228 = .ok (.aload_n 0, 1)) ∧ (decode prog_8_method_22_code 229 = .ok (.getfield 56, 3)) ∧ (decode prog_8_method_22_code 232 = .ok (.iconst 3, 1)) ∧ (decode prog_8_method_22_code 233 = .ok (.iaload, 1)) ∧ (decode prog_8_method_22_code 234 = .ok (.isub, 1)) ∧ (decode prog_8_method_22_code 235 = .ok (.ireturn, 1)) :=
  ⟨by decide +kernel, by decide +kernel, by decide +kernel, by decide +kernel, by decide +kernel, by decide +kernel, by decide +kernel, by decide +kernel, by decide +kernel, by decide +kernel, by decide +kernel, by decide +kernel, by decide +kernel, by decide +kernel, by decide +kernel, by decide +kernel, by decide +kernel, by decide +kernel, by decide +kernel, by decide +kernel, by decide +kernel, by decide +kernel, by decide +kernel, by decide +kernel, by decide +kernel, by decide +kernel, by decide +kernel, by decide +kernel, by decide +kernel, by decide +kernel, by decide +kernel, by decide +kernel, by decide +kernel, by decide +kernel, by decide +kernel, by decide +kernel, by decide +kernel, by decide +kernel, by decide +kernel, by decide +kernel, by decide +kernel, by decide +kernel, by decide +kernel, by decide +kernel, by decide +kernel, by decide +kernel⟩
def y_MO_nearest : MethodName := ⟨"PlaceTestsModel", "nearest", "(I)I"⟩
theorem D_MO_nearest : (decode prog_8_method_23_code 0 = .ok (.iload_n 0, 1)) ∧ (decode prog_8_method_23_code 1 = .ok (.ifCond .ge 7, 3)) ∧ (decode prog_8_method_23_code 4 = .ok (.iconst 0, 1)) ∧ (decode prog_8_method_23_code 5 = .ok (.goto 14, 3)) ∧ (decode prog_8_method_23_code 8 = .ok (.iconst 2, 1)) ∧ (decode prog_8_method_23_code 9 = .ok (.iload_n 0, 1)) ∧ (decode prog_8_method_23_code 10 = .ok (.imul, 1)) ∧ (decode prog_8_method_23_code 11 = .ok (.sipush 255, 3)) ∧ (decode prog_8_method_23_code 14 = .ok (.iadd, 1)) ∧ (decode prog_8_method_23_code 15 = .ok (.sipush 510, 3)) ∧ (decode prog_8_method_23_code 18 = .ok (.idiv, 1)) ∧ (decode prog_8_method_23_code 19 = .ok (.istore_n 1, 1)) ∧ (decode prog_8_method_23_code 20 = .ok (.iload_n 1, 1)) ∧ (decode prog_8_method_23_code 21 = .ok (.sipush 255, 3)) ∧ (decode prog_8_method_23_code 24 = .ok (.if_icmp .le 9, 3)) ∧ (decode prog_8_method_23_code 27 = .ok (.sipush 255, 3)) ∧ (decode prog_8_method_23_code 30 = .ok (.goto 4, 3)) ∧ (decode prog_8_method_23_code 33 = .ok (.iload_n 1, 1)) ∧ (decode prog_8_method_23_code 34 = .ok (.ireturn, 1)) :=
  ⟨by decide +kernel, by decide +kernel, by decide +kernel, by decide +kernel, by decide +kernel, by decide +kernel, by decide +kernel, by decide +kernel, by decide +kernel, by decide +kernel, by decide +kernel, by decide +kernel, by decide +kernel, by decide +kernel, by decide +kernel, by decide +kernel, by decide +kernel, by decide +kernel, by decide +kernel⟩
def y_MO_at : MethodName := ⟨"PlaceTestsModel", "at", "(III)I"⟩
theorem D_MO_at : (decode prog_8_method_29_code 0 = .ok (.aload_n 0, 1)) ∧ (decode prog_8_method_29_code 1 = .ok (.iload_n 3, 1)) ∧ (decode prog_8_method_29_code 2 = .ok (.iconst 0, 1)) ∧ (decode prog_8_method_29_code 3 = .ok (.iconst 2, 1)) ∧ (decode prog_8_method_29_code 4 = .ok (.invokestatic 62, 3)) ∧ (decode prog_8_method_29_code 7 = .ok (.ifCond .ne 7, 3)) ∧ (decode prog_8_method_29_code 10 = .ok (.iconst 1, 1)) ∧ (decode prog_8_method_29_code 11 = .ok (.goto 4, 3)) ∧ (decode prog_8_method_29_code 14 = .ok (.iconst 0, 1)) ∧ (decode prog_8_method_29_code 15 = .ok (.aload_n 0, 1)) ∧ (decode prog_8_method_29_code 16 = .ok (.iload_n 1, 1)) ∧ (decode prog_8_method_29_code 17 = .ok (.iload_n 2, 1)) ∧ (decode prog_8_method_29_code 18 = .ok (.invokevirtual 86, 3)) ∧ (decode prog_8_method_29_code 21 = .ok (.ifCond .ne 7, 3)) ∧ (decode prog_8_method_29_code 24 = .ok (.iconst 1, 1)) ∧ (decode prog_8_method_29_code 25 = .ok (.goto 4, 3)) ∧ (decode prog_8_method_29_code 28 = .ok (.iconst 0, 1)) ∧ (decode prog_8_method_29_code 29 = .ok (.invokevirtual 66, 3)) ∧ (decode prog_8_method_29_code 32 = .ok (.ifCond .eq 5, 3)) ∧ (decode prog_8_method_29_code 35 = .ok (.iconst 0, 1)) ∧ (decode prog_8_method_29_code 36 = .ok (.ireturn, 1)) ∧ (decode prog_8_method_29_code 37 = .ok (.aload_n 0, 1)) ∧ (decode prog_8_method_29_code 38 = .ok (.aload_n 0, 1)) ∧ (decode prog_8_method_29_code 39 = .ok (.iload_n 1, 1)) ∧ (decode prog_8_method_29_code 40 = .ok (.iload_n 2, 1)) ∧ (decode prog_8_method_29_code 41 = .ok (.invokevirtual 94, 3)) ∧ (decode prog_8_method_29_code 44 = .ok (.iload_n 3, 1)) ∧ (decode prog_8_method_29_code 45 = .ok (.invokevirtual 133, 3)) ∧ (decode prog_8_method_29_code 48 = .ok (.ireturn, 1)) :=
  ⟨by decide +kernel, by decide +kernel, by decide +kernel, by decide +kernel, by decide +kernel, by decide +kernel, by decide +kernel, by decide +kernel, by decide +kernel, by decide +kernel, by decide +kernel, by decide +kernel, by decide +kernel, by decide +kernel, by decide +kernel, by decide +kernel, by decide +kernel, by decide +kernel, by decide +kernel, by decide +kernel, by decide +kernel, by decide +kernel, by decide +kernel, by decide +kernel, by decide +kernel, by decide +kernel, by decide +kernel, by decide +kernel, by decide +kernel⟩
def y_MO_show : MethodName := ⟨"PlaceTestsModel", "show", "(II)I"⟩
theorem D_MO_show : (decode prog_8_method_28_code 0 = .ok (.iload_n 2, 1)) ∧ (decode prog_8_method_28_code 1 = .ok (.ifCond .le 24, 3)) ∧ (decode prog_8_method_28_code 4 = .ok (.iload_n 2, 1)) ∧ (decode prog_8_method_28_code 5 = .ok (.iconst 1, 1)) ∧ (decode prog_8_method_28_code 6 = .ok (.if_icmp .ne 12, 3)) ∧ (decode prog_8_method_28_code 9 = .ok (.aload_n 0, 1)) ∧ (decode prog_8_method_28_code 10 = .ok (.getfield 20, 3)) ∧ (decode prog_8_method_28_code 13 = .ok (.iload_n 1, 1)) ∧ (decode prog_8_method_28_code 14 = .ok (.iaload, 1)) ∧ (decode prog_8_method_28_code 15 = .ok (.goto 9, 3)) ∧ (decode prog_8_method_28_code 18 = .ok (.aload_n 0, 1)) ∧ (decode prog_8_method_28_code 19 = .ok (.getfield 23, 3)) ∧ (decode prog_8_method_28_code 22 = .ok (.iload_n 1, 1)) ∧ (decode prog_8_method_28_code 23 = .ok (.iaload, 1)) ∧ (decode prog_8_method_28_code 24 = .ok (.ireturn, 1)) ∧ (decode prog_8_method_28_code 25 = .ok (.iconst 0, 1)) ∧ (decode prog_8_method_28_code 26 = .ok (.istore_n 3, 1)) ∧ (decode prog_8_method_28_code 27 = .ok (.iconst 0, 1)) ∧ (decode prog_8_method_28_code 28 = .ok (.istore 4, 2)) ∧ (decode prog_8_method_28_code 30 = .ok (.iload 4, 2)) ∧ (decode prog_8_method_28_code 32 = .ok (.iconst 4, 1)) ∧ (decode prog_8_method_28_code 33 = .ok (.if_icmp .ge 29, 3)) ∧ (decode prog_8_method_28_code 36 = .ok (.iload_n 3, 1)) ∧ (decode prog_8_method_28_code 37 = .ok (.aload_n 0, 1)) ∧ (decode prog_8_method_28_code 38 = .ok (.getfield 16, 3)) ∧ (decode prog_8_method_28_code 41 = .ok (.iconst 4, 1)) ∧ (decode prog_8_method_28_code 42 = .ok (.iload_n 1, 1)) ∧ (decode prog_8_method_28_code 43 = .ok (.imul, 1)) ∧ (decode prog_8_method_28_code 44 = .ok (.iload 4, 2)) ∧ (decode prog_8_method_28_code 46 = .ok (.iadd, 1)) ∧ (decode prog_8_method_28_code 47 = .ok (.iaload, 1)) ∧ (decode prog_8_method_28_code 48 = .ok (.bipush 8, 2)) ∧ (decode prog_8_method_28_code 50 = .ok (.iload 4, 2)) ∧ (decode prog_8_method_28_code 52 = .ok (.imul, 1)) ∧ (decode prog_8_method_28_code 53 = .ok (.ishl, 1)) ∧ (decode prog_8_method_28_code 54 = .ok (.ior, 1)) ∧ (decode prog_8_method_28_code 55 = .ok (.istore_n 3, 1)) ∧ (decode prog_8_method_28_code 56 = .ok (.iinc 4 1, 3)) ∧ (decode prog_8_method_28_code 59 = .ok (.goto (-29), 3)) ∧ (decode prog_8_method_28_code 62 = .ok (.iload_n 3, 1)) ∧ (decode prog_8_method_28_code 63 = .ok (.ireturn, 1)) :=
  ⟨by decide +kernel, by decide +kernel, by decide +kernel, by decide +kernel, by decide +kernel, by decide +kernel, by decide +kernel, by decide +kernel, by decide +kernel, by decide +kernel, by decide +kernel, by decide +kernel, by decide +kernel, by decide +kernel, by decide +kernel, by decide +kernel, by decide +kernel, by decide +kernel, by decide +kernel, by decide +kernel, by decide +kernel, by decide +kernel, by decide +kernel, by decide +kernel, by decide +kernel, by decide +kernel, by decide +kernel, by decide +kernel, by decide +kernel, by decide +kernel, by decide +kernel, by decide +kernel, by decide +kernel, by decide +kernel, by decide +kernel, by decide +kernel, by decide +kernel, by decide +kernel, by decide +kernel, by decide +kernel, by decide +kernel⟩
def y_MO_drawn : MethodName := ⟨"PlaceTestsModel", "drawn", "(I)I"⟩
theorem D_MO_drawn : (decode prog_8_method_30_code 0 = .ok (.aload_n 0, 1)) ∧ (decode prog_8_method_30_code 1 = .ok (.iload_n 1, 1)) ∧ (decode prog_8_method_30_code 2 = .ok (.iconst 0, 1)) ∧ (decode prog_8_method_30_code 3 = .ok (.iconst 3, 1)) ∧ (decode prog_8_method_30_code 4 = .ok (.invokestatic 62, 3)) ∧ (decode prog_8_method_30_code 7 = .ok (.ifCond .ne 7, 3)) ∧ (decode prog_8_method_30_code 10 = .ok (.iconst 1, 1)) ∧ (decode prog_8_method_30_code 11 = .ok (.goto 4, 3)) ∧ (decode prog_8_method_30_code 14 = .ok (.iconst 0, 1)) ∧ (decode prog_8_method_30_code 15 = .ok (.iconst 0, 1)) ∧ (decode prog_8_method_30_code 16 = .ok (.invokevirtual 66, 3)) ∧ (decode prog_8_method_30_code 19 = .ok (.ifCond .eq 5, 3)) ∧ (decode prog_8_method_30_code 22 = .ok (.iconst 0, 1)) ∧ (decode prog_8_method_30_code 23 = .ok (.ireturn, 1)) ∧ (decode prog_8_method_30_code 24 = .ok (.aload_n 0, 1)) ∧ (decode prog_8_method_30_code 25 = .ok (.getfield 50, 3)) ∧ (decode prog_8_method_30_code 28 = .ok (.iload_n 1, 1)) ∧ (decode prog_8_method_30_code 29 = .ok (.iaload, 1)) ∧ (decode prog_8_method_30_code 30 = .ok (.ireturn, 1)) :=
  ⟨by decide +kernel, by decide +kernel, by decide +kernel, by decide +kernel, by decide +kernel, by decide +kernel, by decide +kernel, by decide +kernel, by decide +kernel, by decide +kernel, by decide +kernel, by decide +kernel, by decide +kernel, by decide +kernel, by decide +kernel, by decide +kernel, by decide +kernel, by decide +kernel, by decide +kernel⟩
def y_MO_sum : MethodName := ⟨"PlaceTestsModel", "sum", "(I)I"⟩
theorem D_MO_sum : (decode prog_8_method_31_code 0 = .ok (.aload_n 0, 1)) ∧ (decode prog_8_method_31_code 1 = .ok (.iload_n 1, 1)) ∧ (decode prog_8_method_31_code 2 = .ok (.iconst 0, 1)) ∧ (decode prog_8_method_31_code 3 = .ok (.iconst 2, 1)) ∧ (decode prog_8_method_31_code 4 = .ok (.invokestatic 62, 3)) ∧ (decode prog_8_method_31_code 7 = .ok (.ifCond .ne 7, 3)) ∧ (decode prog_8_method_31_code 10 = .ok (.iconst 1, 1)) ∧ (decode prog_8_method_31_code 11 = .ok (.goto 4, 3)) ∧ (decode prog_8_method_31_code 14 = .ok (.iconst 0, 1)) ∧ (decode prog_8_method_31_code 15 = .ok (.iconst 0, 1)) ∧ (decode prog_8_method_31_code 16 = .ok (.invokevirtual 66, 3)) ∧ (decode prog_8_method_31_code 19 = .ok (.ifCond .eq 5, 3)) ∧ (decode prog_8_method_31_code 22 = .ok (.iconst 0, 1)) ∧ (decode prog_8_method_31_code 23 = .ok (.ireturn, 1)) ∧ (decode prog_8_method_31_code 24 = .ok (.iconst 0, 1)) ∧ (decode prog_8_method_31_code 25 = .ok (.istore_n 2, 1)) ∧ (decode prog_8_method_31_code 26 = .ok (.iconst 0, 1)) ∧ (decode prog_8_method_31_code 27 = .ok (.istore_n 3, 1)) ∧ (decode prog_8_method_31_code 28 = .ok (.iload_n 3, 1)) ∧ (decode prog_8_method_31_code 29 = .ok (.aload_n 0, 1)) ∧ (decode prog_8_method_31_code 30 = .ok (.getfield 7, 3)) ∧ (decode prog_8_method_31_code 33 = .ok (.aload_n 0, 1)) ∧ (decode prog_8_method_31_code 34 = .ok (.getfield 13, 3)) ∧ (decode prog_8_method_31_code 37 = .ok (.imul, 1)) ∧ (decode prog_8_method_31_code 38 = .ok (.if_icmp .ge 21, 3)) ∧ (decode prog_8_method_31_code 41 = .ok (.bipush 31, 2)) ∧ (decode prog_8_method_31_code 43 = .ok (.iload_n 2, 1)) ∧ (decode prog_8_method_31_code 44 = .ok (.imul, 1)) ∧ (decode prog_8_method_31_code 45 = .ok (.aload_n 0, 1)) ∧ (decode prog_8_method_31_code 46 = .ok (.iload_n 3, 1)) ∧ (decode prog_8_method_31_code 47 = .ok (.iload_n 1, 1)) ∧ (decode prog_8_method_31_code 48 = .ok (.invokevirtual 133, 3)) ∧ (decode prog_8_method_31_code 51 = .ok (.iadd, 1)) ∧ (decode prog_8_method_31_code 52 = .ok (.istore_n 2, 1)) ∧ (decode prog_8_method_31_code 53 = .ok (.iinc 3 1, 3)) ∧ (decode prog_8_method_31_code 56 = .ok (.goto (-28), 3)) ∧ (decode prog_8_method_31_code 59 = .ok (.iload_n 2, 1)) ∧ (decode prog_8_method_31_code 60 = .ok (.ireturn, 1)) :=
  ⟨by decide +kernel, by decide +kernel, by decide +kernel, by decide +kernel, by decide +kernel, by decide +kernel, by decide +kernel, by decide +kernel, by decide +kernel, by decide +kernel, by decide +kernel, by decide +kernel, by decide +kernel, by decide +kernel, by decide +kernel, by decide +kernel, by decide +kernel, by decide +kernel, by decide +kernel, by decide +kernel, by decide +kernel, by decide +kernel, by decide +kernel, by decide +kernel, by decide +kernel, by decide +kernel, by decide +kernel, by decide +kernel, by decide +kernel, by decide +kernel, by decide +kernel, by decide +kernel, by decide +kernel, by decide +kernel, by decide +kernel, by decide +kernel, by decide +kernel, by decide +kernel⟩
end
section
def y_CO_bitsOf : MethodName := ⟨"PlaceTests$Colour", "bitsOf", "(I)I"⟩
theorem D_CO_bitsOf : (decode prog_3_method_3_code 0 = .ok (.iconst 0, 1)) ∧ (decode prog_3_method_3_code 1 = .ok (.istore_n 1, 1)) ∧ (decode prog_3_method_3_code 2 = .ok (.iconst 0, 1)) ∧ (decode prog_3_method_3_code 3 = .ok (.istore_n 2, 1)) ∧ (decode prog_3_method_3_code 4 = .ok (.iload_n 2, 1)) ∧ (decode prog_3_method_3_code 5 = .ok (.iconst 4, 1)) ∧ (decode prog_3_method_3_code 6 = .ok (.if_icmp .ge 28, 3)) ∧ (decode prog_3_method_3_code 9 = .ok (.iload_n 0, 1)) ∧ (decode prog_3_method_3_code 10 = .ok (.iconst 1, 1)) ∧ (decode prog_3_method_3_code 11 = .ok (.iload_n 2, 1)) ∧ (decode prog_3_method_3_code 12 = .ok (.ishl, 1)) ∧ (decode prog_3_method_3_code 13 = .ok (.iand, 1)) ∧ (decode prog_3_method_3_code 14 = .ok (.ifCond .eq 14, 3)) ∧ (decode prog_3_method_3_code 17 = .ok (.iload_n 1, 1)) ∧ (decode prog_3_method_3_code 18 = .ok (.sipush 255, 3)) ∧ (decode prog_3_method_3_code 21 = .ok (.bipush 8, 2)) ∧ (decode prog_3_method_3_code 23 = .ok (.iload_n 2, 1)) ∧ (decode prog_3_method_3_code 24 = .ok (.imul, 1)) ∧ (decode prog_3_method_3_code 25 = .ok (.ishl, 1)) ∧ (decode prog_3_method_3_code 26 = .ok (.ior, 1)) ∧ (decode prog_3_method_3_code 27 = .ok (.istore_n 1, 1)) ∧ (decode prog_3_method_3_code 28 = .ok (.iinc 2 1, 3)) ∧ (decode prog_3_method_3_code 31 = .ok (.goto (-27), 3)) ∧ (decode prog_3_method_3_code 34 = .ok (.iload_n 1, 1)) ∧ (decode prog_3_method_3_code 35 = .ok (.ireturn, 1)) :=
  ⟨by decide +kernel, by decide +kernel, by decide +kernel, by decide +kernel, by decide +kernel, by decide +kernel, by decide +kernel, by decide +kernel, by decide +kernel, by decide +kernel, by decide +kernel, by decide +kernel, by decide +kernel, by decide +kernel, by decide +kernel, by decide +kernel, by decide +kernel, by decide +kernel, by decide +kernel, by decide +kernel, by decide +kernel, by decide +kernel, by decide +kernel, by decide +kernel, by decide +kernel⟩
def y_CO_ofFixed : MethodName := ⟨"PlaceTests$Colour", "ofFixed", "(IIII)I"⟩
theorem D_CO_ofFixed : (decode prog_3_method_5_code 0 = .ok (.iload_n 0, 1)) ∧ (decode prog_3_method_5_code 1 = .ok (.invokestatic 11, 3)) ∧ (decode prog_3_method_5_code 4 = .ok (.iload_n 1, 1)) ∧ (decode prog_3_method_5_code 5 = .ok (.invokestatic 11, 3)) ∧ (decode prog_3_method_5_code 8 = .ok (.iload_n 2, 1)) ∧ (decode prog_3_method_5_code 9 = .ok (.invokestatic 11, 3)) ∧ (decode prog_3_method_5_code 12 = .ok (.iload_n 3, 1)) ∧ (decode prog_3_method_5_code 13 = .ok (.invokestatic 11, 3)) ∧ (decode prog_3_method_5_code 16 = .ok (.invokestatic 15, 3)) ∧ (decode prog_3_method_5_code 19 = .ok (.ireturn, 1)) :=
  ⟨by decide +kernel, by decide +kernel, by decide +kernel, by decide +kernel, by decide +kernel, by decide +kernel, by decide +kernel, by decide +kernel, by decide +kernel, by decide +kernel⟩
def y_CO_byteOf : MethodName := ⟨"PlaceTests$Colour", "byteOf", "(I)I"⟩
theorem D_CO_byteOf : (decode prog_3_method_6_code 0 = .ok (.iconst 0, 1)) ∧ (decode prog_3_method_6_code 1 = .ok (.iload_n 0, 1)) ∧ (decode prog_3_method_6_code 2 = .ok (.ldc 19, 2)) ∧ (decode prog_3_method_6_code 4 = .ok (.invokestatic 20, 3)) ∧ (decode prog_3_method_6_code 7 = .ok (.invokestatic 26, 3)) ∧ (decode prog_3_method_6_code 10 = .ok (.istore_n 1, 1)) ∧ (decode prog_3_method_6_code 11 = .ok (.sipush 255, 3)) ∧ (decode prog_3_method_6_code 14 = .ok (.iload_n 1, 1)) ∧ (decode prog_3_method_6_code 15 = .ok (.imul, 1)) ∧ (decode prog_3_method_6_code 16 = .ok (.ldc 29, 2)) ∧ (decode prog_3_method_6_code 18 = .ok (.iadd, 1)) ∧ (decode prog_3_method_6_code 19 = .ok (.ldc 19, 2)) ∧ (decode prog_3_method_6_code 21 = .ok (.idiv, 1)) ∧ (decode prog_3_method_6_code 22 = .ok (.ireturn, 1)) :=
  ⟨by decide +kernel, by decide +kernel, by decide +kernel, by decide +kernel, by decide +kernel, by decide +kernel, by decide +kernel, by decide +kernel, by decide +kernel, by decide +kernel, by decide +kernel, by decide +kernel, by decide +kernel, by decide +kernel⟩
def y_CO_packed : MethodName := ⟨"PlaceTests$Colour", "packed", "(IIII)I"⟩
theorem D_CO_packed : (decode prog_3_method_2_code 0 = .ok (.iload_n 3, 1)) ∧ (decode prog_3_method_2_code 1 = .ok (.bipush 24, 2)) ∧ (decode prog_3_method_2_code 3 = .ok (.ishl, 1)) ∧ (decode prog_3_method_2_code 4 = .ok (.iload_n 2, 1)) ∧ (decode prog_3_method_2_code 5 = .ok (.bipush 16, 2)) ∧ (decode prog_3_method_2_code 7 = .ok (.ishl, 1)) ∧ (decode prog_3_method_2_code 8 = .ok (.ior, 1)) ∧ (decode prog_3_method_2_code 9 = .ok (.iload_n 1, 1)) ∧ (decode prog_3_method_2_code 10 = .ok (.bipush 8, 2)) ∧ (decode prog_3_method_2_code 12 = .ok (.ishl, 1)) ∧ (decode prog_3_method_2_code 13 = .ok (.ior, 1)) ∧ (decode prog_3_method_2_code 14 = .ok (.iload_n 0, 1)) ∧ (decode prog_3_method_2_code 15 = .ok (.ior, 1)) ∧ (decode prog_3_method_2_code 16 = .ok (.ireturn, 1)) :=
  ⟨by decide +kernel, by decide +kernel, by decide +kernel, by decide +kernel, by decide +kernel, by decide +kernel, by decide +kernel, by decide +kernel, by decide +kernel, by decide +kernel, by decide +kernel, by decide +kernel, by decide +kernel, by decide +kernel⟩
def y_CO_byLogic : MethodName := ⟨"PlaceTests$Colour", "byLogic", "(III)I"⟩
theorem D_CO_byLogic : (decode prog_3_method_7_code 0 = .ok (.iconst 0, 1)) ∧ (decode prog_3_method_7_code 1 = .ok (.istore_n 3, 1)) ∧ (decode prog_3_method_7_code 2 = .ok (.iload_n 0, 1)) ∧ (decode prog_3_method_7_code 3 = .ok (.iconst 1, 1)) ∧ (decode prog_3_method_7_code 4 = .ok (.iand, 1)) ∧ (decode prog_3_method_7_code 5 = .ok (.ifCond .eq 13, 3)) ∧ (decode prog_3_method_7_code 8 = .ok (.iload_n 3, 1)) ∧ (decode prog_3_method_7_code 9 = .ok (.iload_n 1, 1)) ∧ (decode prog_3_method_7_code 10 = .ok (.iconst (-1), 1)) ∧ (decode prog_3_method_7_code 11 = .ok (.ixor, 1)) ∧ (decode prog_3_method_7_code 12 = .ok (.iload_n 2, 1)) ∧ (decode prog_3_method_7_code 13 = .ok (.iconst (-1), 1)) ∧ (decode prog_3_method_7_code 14 = .ok (.ixor, 1)) ∧ (decode prog_3_method_7_code 15 = .ok (.iand, 1)) ∧ (decode prog_3_method_7_code 16 = .ok (.ior, 1)) ∧ (decode prog_3_method_7_code 17 = .ok (.istore_n 3, 1)) ∧ (decode prog_3_method_7_code 18 = .ok (.iload_n 0, 1)) ∧ (decode prog_3_method_7_code 19 = .ok (.iconst 2, 1)) ∧ (decode prog_3_method_7_code 20 = .ok (.iand, 1)) ∧ (decode prog_3_method_7_code 21 = .ok (.ifCond .eq 11, 3)) ∧ (decode prog_3_method_7_code 24 = .ok (.iload_n 3, 1)) ∧ (decode prog_3_method_7_code 25 = .ok (.iload_n 1, 1)) ∧ (decode prog_3_method_7_code 26 = .ok (.iconst (-1), 1)) ∧ (decode prog_3_method_7_code 27 = .ok (.ixor, 1)) ∧ (decode prog_3_method_7_code 28 = .ok (.iload_n 2, 1)) ∧ (decode prog_3_method_7_code 29 = .ok (.iand, 1)) ∧ (decode prog_3_method_7_code 30 = .ok (.ior, 1)) ∧ (decode prog_3_method_7_code 31 = .ok (.istore_n 3, 1)) ∧ (decode prog_3_method_7_code 32 = .ok (.iload_n 0, 1)) ∧ (decode prog_3_method_7_code 33 = .ok (.iconst 4, 1)) ∧ (decode prog_3_method_7_code 34 = .ok (.iand, 1)) ∧ (decode prog_3_method_7_code 35 = .ok (.ifCond .eq 11, 3)) ∧ (decode prog_3_method_7_code 38 = .ok (.iload_n 3, 1)) ∧ (decode prog_3_method_7_code 39 = .ok (.iload_n 1, 1)) ∧ (decode prog_3_method_7_code 40 = .ok (.iload_n 2, 1)) ∧ (decode prog_3_method_7_code 41 = .ok (.iconst (-1), 1)) ∧ (decode prog_3_method_7_code 42 = .ok (.ixor, 1)) ∧ (decode prog_3_method_7_code 43 = .ok (.iand, 1)) ∧ (decode prog_3_method_7_code 44 = .ok (.ior, 1)) ∧ (decode prog_3_method_7_code 45 = .ok (.istore_n 3, 1)) ∧ (decode prog_3_method_7_code 46 = .ok (.iload_n 0, 1)) ∧ (decode prog_3_method_7_code 47 = .ok (.bipush 8, 2)) ∧ (decode prog_3_method_7_code 49 = .ok (.iand, 1)) ∧ (decode prog_3_method_7_code 50 = .ok (.ifCond .eq 9, 3)) ∧ (decode prog_3_method_7_code 53 = .ok (.iload_n 3, 1)) ∧ (decode prog_3_method_7_code 54 = .ok (.iload_n 1, 1)) ∧ (decode prog_3_method_7_code 55 = .ok (.iload_n 2, 1)) ∧ (decode prog_3_method_7_code 56 = .ok (.iand, 1)) ∧ (decode prog_3_method_7_code 57 = .ok (.ior, 1)) ∧ (decode prog_3_method_7_code 58 = .ok (.istore_n 3, 1)) ∧ (decode prog_3_method_7_code 59 = .ok (.iload_n 3, 1)) ∧ (decode prog_3_method_7_code 60 = .ok (.ireturn, 1)) :=
  ⟨by decide +kernel, by decide +kernel, by decide +kernel, by decide +kernel, by decide +kernel, by decide +kernel, by decide +kernel, by decide +kernel, by decide +kernel, by decide +kernel, by decide +kernel, by decide +kernel, by decide +kernel, by decide +kernel, by decide +kernel, by decide +kernel, by decide +kernel, by decide +kernel, by decide +kernel, by decide +kernel, by decide +kernel, by decide +kernel, by decide +kernel, by decide +kernel, by decide +kernel, by decide +kernel, by decide +kernel, by decide +kernel, by decide +kernel, by decide +kernel, by decide +kernel, by decide +kernel, by decide +kernel, by decide +kernel, by decide +kernel, by decide +kernel, by decide +kernel, by decide +kernel, by decide +kernel, by decide +kernel, by decide +kernel, by decide +kernel, by decide +kernel, by decide +kernel, by decide +kernel, by decide +kernel, by decide +kernel, by decide +kernel, by decide +kernel, by decide +kernel, by decide +kernel, by decide +kernel⟩
def y_CO_channel : MethodName := ⟨"PlaceTests$Colour", "channel", "(II)I"⟩
theorem D_CO_channel : (decode prog_3_method_4_code 0 = .ok (.iload_n 0, 1)) ∧ (decode prog_3_method_4_code 1 = .ok (.iload_n 1, 1)) ∧ (decode prog_3_method_4_code 2 = .ok (.iushr, 1)) ∧ (decode prog_3_method_4_code 3 = .ok (.sipush 255, 3)) ∧ (decode prog_3_method_4_code 6 = .ok (.iand, 1)) ∧ (decode prog_3_method_4_code 7 = .ok (.ireturn, 1)) :=
  ⟨by decide +kernel, by decide +kernel, by decide +kernel, by decide +kernel, by decide +kernel, by decide +kernel⟩
end
section
def y_LA_frame : MethodName := ⟨"PlaceTestsLaw", "frame", "(LPlaceTests;IIII)I"⟩
theorem D_LA_frame : (decode method_3_code 0 = .ok (.aload_n 0, 1)) ∧ (decode method_3_code 1 = .ok (.iload_n 1, 1)) ∧ (decode method_3_code 2 = .ok (.iload_n 2, 1)) ∧ (decode method_3_code 3 = .ok (.iload_n 3, 1)) ∧ (decode method_3_code 4 = .ok (.iload 4, 2)) ∧ (decode method_3_code 6 = .ok (.invokevirtual 7, 3)) ∧ (decode method_3_code 9 = .ok (.goto 7, 3)) ∧ (decode method_3_code 12 = .ok (.astore 5, 2)) ∧ (decode method_3_code 14 = .ok (.iconst 1, 1)) ∧ (decode method_3_code 15 = .ok (.ireturn, 1)) ∧ (decode method_3_code 16 = .ok (.iconst 0, 1)) ∧ (decode method_3_code 17 = .ok (.ireturn, 1)) :=
  ⟨by decide +kernel, by decide +kernel, by decide +kernel, by decide +kernel, by decide +kernel, by decide +kernel, by decide +kernel, by decide +kernel, by decide +kernel, by decide +kernel, by decide +kernel, by decide +kernel⟩
def y_LA_depth : MethodName := ⟨"PlaceTestsLaw", "depth", "(LPlaceTests;IZ)I"⟩
theorem D_LA_depth : (decode method_4_code 0 = .ok (.aload_n 0, 1)) ∧ (decode method_4_code 1 = .ok (.iload_n 1, 1)) ∧ (decode method_4_code 2 = .ok (.iload_n 2, 1)) ∧ (decode method_4_code 3 = .ok (.invokevirtual 15, 3)) ∧ (decode method_4_code 6 = .ok (.goto 6, 3)) ∧ (decode method_4_code 9 = .ok (.astore_n 3, 1)) ∧ (decode method_4_code 10 = .ok (.iconst 1, 1)) ∧ (decode method_4_code 11 = .ok (.ireturn, 1)) ∧ (decode method_4_code 12 = .ok (.iconst 0, 1)) ∧ (decode method_4_code 13 = .ok (.ireturn, 1)) :=
  ⟨by decide +kernel, by decide +kernel, by decide +kernel, by decide +kernel, by decide +kernel, by decide +kernel, by decide +kernel, by decide +kernel, by decide +kernel, by decide +kernel⟩
def y_LA_stencil : MethodName := ⟨"PlaceTestsLaw", "stencil", "(LPlaceTests;IIIIIIII)I"⟩
theorem D_LA_stencil : (decode method_5_code 0 = .ok (.aload_n 0, 1)) ∧ (decode method_5_code 1 = .ok (.iload_n 1, 1)) ∧ (decode method_5_code 2 = .ok (.iload_n 2, 1)) ∧ (decode method_5_code 3 = .ok (.iload_n 3, 1)) ∧ (decode method_5_code 4 = .ok (.iload 4, 2)) ∧ (decode method_5_code 6 = .ok (.iload 5, 2)) ∧ (decode method_5_code 8 = .ok (.iload 6, 2)) ∧ (decode method_5_code 10 = .ok (.iload 7, 2)) ∧ (decode method_5_code 12 = .ok (.iload 8, 2)) ∧ (decode method_5_code 14 = .ok (.invokevirtual 19, 3)) ∧ (decode method_5_code 17 = .ok (.goto 7, 3)) ∧ (decode method_5_code 20 = .ok (.astore 9, 2)) ∧ (decode method_5_code 22 = .ok (.iconst 1, 1)) ∧ (decode method_5_code 23 = .ok (.ireturn, 1)) ∧ (decode method_5_code 24 = .ok (.iconst 0, 1)) ∧ (decode method_5_code 25 = .ok (.ireturn, 1)) :=
  ⟨by decide +kernel, by decide +kernel, by decide +kernel, by decide +kernel, by decide +kernel, by decide +kernel, by decide +kernel, by decide +kernel, by decide +kernel, by decide +kernel, by decide +kernel, by decide +kernel, by decide +kernel, by decide +kernel, by decide +kernel, by decide +kernel⟩
def y_LA_blend : MethodName := ⟨"PlaceTestsLaw", "blend", "(LPlaceTests;IIIIII)I"⟩
theorem D_LA_blend : (decode method_6_code 0 = .ok (.aload_n 0, 1)) ∧ (decode method_6_code 1 = .ok (.iload_n 1, 1)) ∧ (decode method_6_code 2 = .ok (.iload_n 2, 1)) ∧ (decode method_6_code 3 = .ok (.iload_n 3, 1)) ∧ (decode method_6_code 4 = .ok (.iload 4, 2)) ∧ (decode method_6_code 6 = .ok (.iload 5, 2)) ∧ (decode method_6_code 8 = .ok (.iload 6, 2)) ∧ (decode method_6_code 10 = .ok (.invokevirtual 23, 3)) ∧ (decode method_6_code 13 = .ok (.goto 7, 3)) ∧ (decode method_6_code 16 = .ok (.astore 7, 2)) ∧ (decode method_6_code 18 = .ok (.iconst 1, 1)) ∧ (decode method_6_code 19 = .ok (.ireturn, 1)) ∧ (decode method_6_code 20 = .ok (.iconst 0, 1)) ∧ (decode method_6_code 21 = .ok (.ireturn, 1)) :=
  ⟨by decide +kernel, by decide +kernel, by decide +kernel, by decide +kernel, by decide +kernel, by decide +kernel, by decide +kernel, by decide +kernel, by decide +kernel, by decide +kernel, by decide +kernel, by decide +kernel, by decide +kernel, by decide +kernel⟩
def y_LA_logic : MethodName := ⟨"PlaceTestsLaw", "logic", "(LPlaceTests;I)I"⟩
theorem D_LA_logic : (decode method_7_code 0 = .ok (.aload_n 0, 1)) ∧ (decode method_7_code 1 = .ok (.iload_n 1, 1)) ∧ (decode method_7_code 2 = .ok (.invokevirtual 27, 3)) ∧ (decode method_7_code 5 = .ok (.goto 6, 3)) ∧ (decode method_7_code 8 = .ok (.astore_n 2, 1)) ∧ (decode method_7_code 9 = .ok (.iconst 1, 1)) ∧ (decode method_7_code 10 = .ok (.ireturn, 1)) ∧ (decode method_7_code 11 = .ok (.iconst 0, 1)) ∧ (decode method_7_code 12 = .ok (.ireturn, 1)) :=
  ⟨by decide +kernel, by decide +kernel, by decide +kernel, by decide +kernel, by decide +kernel, by decide +kernel, by decide +kernel, by decide +kernel, by decide +kernel⟩
def y_LA_mask : MethodName := ⟨"PlaceTestsLaw", "mask", "(LPlaceTests;I)I"⟩
theorem D_LA_mask : (decode method_8_code 0 = .ok (.aload_n 0, 1)) ∧ (decode method_8_code 1 = .ok (.iload_n 1, 1)) ∧ (decode method_8_code 2 = .ok (.invokevirtual 31, 3)) ∧ (decode method_8_code 5 = .ok (.goto 6, 3)) ∧ (decode method_8_code 8 = .ok (.astore_n 2, 1)) ∧ (decode method_8_code 9 = .ok (.iconst 1, 1)) ∧ (decode method_8_code 10 = .ok (.ireturn, 1)) ∧ (decode method_8_code 11 = .ok (.iconst 0, 1)) ∧ (decode method_8_code 12 = .ok (.ireturn, 1)) :=
  ⟨by decide +kernel, by decide +kernel, by decide +kernel, by decide +kernel, by decide +kernel, by decide +kernel, by decide +kernel, by decide +kernel, by decide +kernel⟩
def y_LA_clear : MethodName := ⟨"PlaceTestsLaw", "clear", "(LPlaceTests;IIII[J)I"⟩
theorem D_LA_clear : (decode method_9_code 0 = .ok (.aload 5, 2)) ∧ (decode method_9_code 2 = .ok (.iconst 0, 1)) ∧ (decode method_9_code 3 = .ok (.aload_n 0, 1)) ∧ (decode method_9_code 4 = .ok (.iload_n 1, 1)) ∧ (decode method_9_code 5 = .ok (.iload_n 2, 1)) ∧ (decode method_9_code 6 = .ok (.iload_n 3, 1)) ∧ (decode method_9_code 7 = .ok (.iload 4, 2)) ∧ (decode method_9_code 9 = .ok (.invokevirtual 34, 3)) ∧ (decode method_9_code 12 = .ok (.i2l, 1)) ∧ (decode method_9_code 13 = .ok (.lastore, 1)) ∧ (decode method_9_code 14 = .ok (.goto 7, 3)) ∧ (decode method_9_code 17 = .ok (.astore 6, 2)) ∧ (decode method_9_code 19 = .ok (.iconst 1, 1)) ∧ (decode method_9_code 20 = .ok (.ireturn, 1)) ∧ (decode method_9_code 21 = .ok (.iconst 0, 1)) ∧ (decode method_9_code 22 = .ok (.ireturn, 1)) :=
  ⟨by decide +kernel, by decide +kernel, by decide +kernel, by decide +kernel, by decide +kernel, by decide +kernel, by decide +kernel, by decide +kernel, by decide +kernel, by decide +kernel, by decide +kernel, by decide +kernel, by decide +kernel, by decide +kernel, by decide +kernel, by decide +kernel⟩
def y_LA_draw : MethodName := ⟨"PlaceTestsLaw", "draw", "(LPlaceTests;IIIIIIII[J)I"⟩
theorem D_LA_draw : (decode method_10_code 0 = .ok (.aload 9, 2)) ∧ (decode method_10_code 2 = .ok (.iconst 0, 1)) ∧ (decode method_10_code 3 = .ok (.aload_n 0, 1)) ∧ (decode method_10_code 4 = .ok (.iload_n 1, 1)) ∧ (decode method_10_code 5 = .ok (.iload_n 2, 1)) ∧ (decode method_10_code 6 = .ok (.iload_n 3, 1)) ∧ (decode method_10_code 7 = .ok (.iload 4, 2)) ∧ (decode method_10_code 9 = .ok (.iload 5, 2)) ∧ (decode method_10_code 11 = .ok (.iload 6, 2)) ∧ (decode method_10_code 13 = .ok (.iload 7, 2)) ∧ (decode method_10_code 15 = .ok (.iload 8, 2)) ∧ (decode method_10_code 17 = .ok (.invokevirtual 38, 3)) ∧ (decode method_10_code 20 = .ok (.i2l, 1)) ∧ (decode method_10_code 21 = .ok (.lastore, 1)) ∧ (decode method_10_code 22 = .ok (.goto 7, 3)) ∧ (decode method_10_code 25 = .ok (.astore 10, 2)) ∧ (decode method_10_code 27 = .ok (.iconst 1, 1)) ∧ (decode method_10_code 28 = .ok (.ireturn, 1)) ∧ (decode method_10_code 29 = .ok (.iconst 0, 1)) ∧ (decode method_10_code 30 = .ok (.ireturn, 1)) :=
  ⟨by decide +kernel, by decide +kernel, by decide +kernel, by decide +kernel, by decide +kernel, by decide +kernel, by decide +kernel, by decide +kernel, by decide +kernel, by decide +kernel, by decide +kernel, by decide +kernel, by decide +kernel, by decide +kernel, by decide +kernel, by decide +kernel, by decide +kernel, by decide +kernel, by decide +kernel, by decide +kernel⟩
def y_LA_at : MethodName := ⟨"PlaceTestsLaw", "at", "(LPlaceTests;III[J)I"⟩
theorem D_LA_at : (decode method_11_code 0 = .ok (.aload 4, 2)) ∧ (decode method_11_code 2 = .ok (.iconst 0, 1)) ∧ (decode method_11_code 3 = .ok (.aload_n 0, 1)) ∧ (decode method_11_code 4 = .ok (.iload_n 1, 1)) ∧ (decode method_11_code 5 = .ok (.iload_n 2, 1)) ∧ (decode method_11_code 6 = .ok (.iload_n 3, 1)) ∧ (decode method_11_code 7 = .ok (.invokevirtual 42, 3)) ∧ (decode method_11_code 10 = .ok (.i2l, 1)) ∧ (decode method_11_code 11 = .ok (.lastore, 1)) ∧ (decode method_11_code 12 = .ok (.goto 11, 3)) ∧ (decode method_11_code 15 = .ok (.astore 5, 2)) ∧ (decode method_11_code 17 = .ok (.iconst 1, 1)) ∧ (decode method_11_code 18 = .ok (.ireturn, 1)) ∧ (decode method_11_code 19 = .ok (.astore 5, 2)) ∧ (decode method_11_code 21 = .ok (.iconst 2, 1)) ∧ (decode method_11_code 22 = .ok (.ireturn, 1)) ∧ (decode method_11_code 23 = .ok (.iconst 0, 1)) ∧ (decode method_11_code 24 = .ok (.ireturn, 1)) :=
  ⟨by decide +kernel, by decide +kernel, by decide +kernel, by decide +kernel, by decide +kernel, by decide +kernel, by decide +kernel, by decide +kernel, by decide +kernel, by decide +kernel, by decide +kernel, by decide +kernel, by decide +kernel, by decide +kernel, by decide +kernel, by decide +kernel, by decide +kernel, by decide +kernel⟩
def y_LA_drawn : MethodName := ⟨"PlaceTestsLaw", "drawn", "(LPlaceTests;I[J)I"⟩
theorem D_LA_drawn : (decode method_12_code 0 = .ok (.aload_n 2, 1)) ∧ (decode method_12_code 1 = .ok (.iconst 0, 1)) ∧ (decode method_12_code 2 = .ok (.aload_n 0, 1)) ∧ (decode method_12_code 3 = .ok (.iload_n 1, 1)) ∧ (decode method_12_code 4 = .ok (.invokevirtual 48, 3)) ∧ (decode method_12_code 7 = .ok (.i2l, 1)) ∧ (decode method_12_code 8 = .ok (.lastore, 1)) ∧ (decode method_12_code 9 = .ok (.goto 6, 3)) ∧ (decode method_12_code 12 = .ok (.astore_n 3, 1)) ∧ (decode method_12_code 13 = .ok (.iconst 1, 1)) ∧ (decode method_12_code 14 = .ok (.ireturn, 1)) ∧ (decode method_12_code 15 = .ok (.iconst 0, 1)) ∧ (decode method_12_code 16 = .ok (.ireturn, 1)) :=
  ⟨by decide +kernel, by decide +kernel, by decide +kernel, by decide +kernel, by decide +kernel, by decide +kernel, by decide +kernel, by decide +kernel, by decide +kernel, by decide +kernel, by decide +kernel, by decide +kernel, by decide +kernel⟩
def y_LA_sum : MethodName := ⟨"PlaceTestsLaw", "sum", "(LPlaceTests;I[J)I"⟩
theorem D_LA_sum : (decode method_13_code 0 = .ok (.aload_n 2, 1)) ∧ (decode method_13_code 1 = .ok (.iconst 0, 1)) ∧ (decode method_13_code 2 = .ok (.aload_n 0, 1)) ∧ (decode method_13_code 3 = .ok (.iload_n 1, 1)) ∧ (decode method_13_code 4 = .ok (.invokevirtual 52, 3)) ∧ (decode method_13_code 7 = .ok (.i2l, 1)) ∧ (decode method_13_code 8 = .ok (.lastore, 1)) ∧ (decode method_13_code 9 = .ok (.goto 6, 3)) ∧ (decode method_13_code 12 = .ok (.astore_n 3, 1)) ∧ (decode method_13_code 13 = .ok (.iconst 1, 1)) ∧ (decode method_13_code 14 = .ok (.ireturn, 1)) ∧ (decode method_13_code 15 = .ok (.iconst 0, 1)) ∧ (decode method_13_code 16 = .ok (.ireturn, 1)) :=
  ⟨by decide +kernel, by decide +kernel, by decide +kernel, by decide +kernel, by decide +kernel, by decide +kernel, by decide +kernel, by decide +kernel, by decide +kernel, by decide +kernel, by decide +kernel, by decide +kernel, by decide +kernel⟩
theorem D_LA_law_0 : (decode code 0 = .ok (.new 8, 3)) ∧ (decode code 3 = .ok (.dup, 1)) ∧ (decode code 4 = .ok (.invokespecial 55, 3)) ∧ (decode code 7 = .ok (.astore_n 1, 1)) ∧ (decode code 8 = .ok (.new 56, 3)) ∧ (decode code 11 = .ok (.dup, 1)) ∧ (decode code 12 = .ok (.invokespecial 58, 3)) ∧ (decode code 15 = .ok (.astore_n 2, 1)) ∧ (decode code 16 = .ok (.iconst 1, 1)) ∧ (decode code 17 = .ok (.newarray .long, 2)) ∧ (decode code 19 = .ok (.astore_n 3, 1)) ∧ (decode code 20 = .ok (.iconst 0, 1)) ∧ (decode code 21 = .ok (.istore 4, 2)) ∧ (decode code 23 = .ok (.iload 4, 2)) ∧ (decode code 25 = .ok (.aload_n 0, 1)) ∧ (decode code 26 = .ok (.arraylength, 1)) ∧ (decode code 27 = .ok (.bipush 9, 2)) ∧ (decode code 29 = .ok (.isub, 1)) ∧ (decode code 30 = .ok (.if_icmp .gt 1028, 3)) ∧ (decode code 33 = .ok (.aload_n 0, 1)) ∧ (decode code 34 = .ok (.iload 4, 2)) ∧ (decode code 36 = .ok (.iaload, 1)) ∧ (decode code 37 = .ok (.bipush 15, 2)) ∧ (decode code 39 = .ok (.iand, 1)) ∧ (decode code 40 = .ok (.tableswitch 1012 0 12 #[68, 140, 199, 263, 389, 487, 510, 546, 582, 674, 820, 900, 956], 68)) ∧ (decode code 108 = .ok (.aload_n 1, 1)) ∧ (decode code 109 = .ok (.aload_n 0, 1)) ∧ (decode code 110 = .ok (.iload 4, 2)) ∧ (decode code 112 = .ok (.iconst 1, 1)) ∧ (decode code 113 = .ok (.iadd, 1)) ∧ (decode code 114 = .ok (.iaload, 1)) ∧ (decode code 115 = .ok (.aload_n 0, 1)) ∧ (decode code 116 = .ok (.iload 4, 2)) ∧ (decode code 118 = .ok (.iconst 2, 1)) ∧ (decode code 119 = .ok (.iadd, 1)) ∧ (decode code 120 = .ok (.iaload, 1)) ∧ (decode code 121 = .ok (.aload_n 0, 1)) ∧ (decode code 122 = .ok (.iload 4, 2)) ∧ (decode code 124 = .ok (.iconst 3, 1)) ∧ (decode code 125 = .ok (.iadd, 1)) ∧ (decode code 126 = .ok (.iaload, 1)) ∧ (decode code 127 = .ok (.aload_n 0, 1)) ∧ (decode code 128 = .ok (.iload 4, 2)) ∧ (decode code 130 = .ok (.iconst 4, 1)) ∧ (decode code 131 = .ok (.iadd, 1)) ∧ (decode code 132 = .ok (.iaload, 1)) ∧ (decode code 133 = .ok (.invokestatic 59, 3)) ∧ (decode code 136 = .ok (.istore 5, 2)) ∧ (decode code 138 = .ok (.aload_n 2, 1)) ∧ (decode code 139 = .ok (.aload_n 0, 1)) ∧ (decode code 140 = .ok (.iload 4, 2)) ∧ (decode code 142 = .ok (.iconst 1, 1)) ∧ (decode code 143 = .ok (.iadd, 1)) ∧ (decode code 144 = .ok (.iaload, 1)) ∧ (decode code 145 = .ok (.aload_n 0, 1)) ∧ (decode code 146 = .ok (.iload 4, 2)) ∧ (decode code 148 = .ok (.iconst 2, 1)) ∧ (decode code 149 = .ok (.iadd, 1)) ∧ (decode code 150 = .ok (.iaload, 1)) ∧ (decode code 151 = .ok (.aload_n 0, 1)) :=
  ⟨by decide +kernel, by decide +kernel, by decide +kernel, by decide +kernel, by decide +kernel, by decide +kernel, by decide +kernel, by decide +kernel, by decide +kernel, by decide +kernel, by decide +kernel, by decide +kernel, by decide +kernel, by decide +kernel, by decide +kernel, by decide +kernel, by decide +kernel, by decide +kernel, by decide +kernel, by decide +kernel, by decide +kernel, by decide +kernel, by decide +kernel, by decide +kernel, by decide +kernel, by decide +kernel, by decide +kernel, by decide +kernel, by decide +kernel, by decide +kernel, by decide +kernel, by decide +kernel, by decide +kernel, by decide +kernel, by decide +kernel, by decide +kernel, by decide +kernel, by decide +kernel, by decide +kernel, by decide +kernel, by decide +kernel, by decide +kernel, by decide +kernel, by decide +kernel, by decide +kernel, by decide +kernel, by decide +kernel, by decide +kernel, by decide +kernel, by decide +kernel, by decide +kernel, by decide +kernel, by decide +kernel, by decide +kernel, by decide +kernel, by decide +kernel, by decide +kernel, by decide +kernel, by decide +kernel, by decide +kernel⟩
theorem D_LA_law_1 : (decode code 152 = .ok (.iload 4, 2)) ∧ (decode code 154 = .ok (.iconst 3, 1)) ∧ (decode code 155 = .ok (.iadd, 1)) ∧ (decode code 156 = .ok (.iaload, 1)) ∧ (decode code 157 = .ok (.aload_n 0, 1)) ∧ (decode code 158 = .ok (.iload 4, 2)) ∧ (decode code 160 = .ok (.iconst 4, 1)) ∧ (decode code 161 = .ok (.iadd, 1)) ∧ (decode code 162 = .ok (.iaload, 1)) ∧ (decode code 163 = .ok (.invokevirtual 64, 3)) ∧ (decode code 166 = .ok (.aload_n 2, 1)) ∧ (decode code 167 = .ok (.invokevirtual 65, 3)) ∧ (decode code 170 = .ok (.iload 5, 2)) ∧ (decode code 172 = .ok (.if_icmp .eq 5, 3)) ∧ (decode code 175 = .ok (.iconst 0, 1)) ∧ (decode code 176 = .ok (.ireturn, 1)) ∧ (decode code 177 = .ok (.goto 875, 3)) ∧ (decode code 180 = .ok (.aload_n 1, 1)) ∧ (decode code 181 = .ok (.aload_n 0, 1)) ∧ (decode code 182 = .ok (.iload 4, 2)) ∧ (decode code 184 = .ok (.iconst 1, 1)) ∧ (decode code 185 = .ok (.iadd, 1)) ∧ (decode code 186 = .ok (.iaload, 1)) ∧ (decode code 187 = .ok (.aload_n 0, 1)) ∧ (decode code 188 = .ok (.iload 4, 2)) ∧ (decode code 190 = .ok (.iconst 2, 1)) ∧ (decode code 191 = .ok (.iadd, 1)) ∧ (decode code 192 = .ok (.iaload, 1)) ∧ (decode code 193 = .ok (.aload_n 0, 1)) ∧ (decode code 194 = .ok (.iload 4, 2)) ∧ (decode code 196 = .ok (.iconst 3, 1)) ∧ (decode code 197 = .ok (.iadd, 1)) ∧ (decode code 198 = .ok (.iaload, 1)) ∧ (decode code 199 = .ok (.aload_n 0, 1)) ∧ (decode code 200 = .ok (.iload 4, 2)) ∧ (decode code 202 = .ok (.iconst 4, 1)) ∧ (decode code 203 = .ok (.iadd, 1)) ∧ (decode code 204 = .ok (.iaload, 1)) ∧ (decode code 205 = .ok (.invokevirtual 69, 3)) ∧ (decode code 208 = .ok (.aload_n 2, 1)) ∧ (decode code 209 = .ok (.aload_n 0, 1)) ∧ (decode code 210 = .ok (.iload 4, 2)) ∧ (decode code 212 = .ok (.iconst 1, 1)) ∧ (decode code 213 = .ok (.iadd, 1)) ∧ (decode code 214 = .ok (.iaload, 1)) ∧ (decode code 215 = .ok (.aload_n 0, 1)) ∧ (decode code 216 = .ok (.iload 4, 2)) ∧ (decode code 218 = .ok (.iconst 2, 1)) ∧ (decode code 219 = .ok (.iadd, 1)) ∧ (decode code 220 = .ok (.iaload, 1)) ∧ (decode code 221 = .ok (.aload_n 0, 1)) ∧ (decode code 222 = .ok (.iload 4, 2)) ∧ (decode code 224 = .ok (.iconst 3, 1)) ∧ (decode code 225 = .ok (.iadd, 1)) ∧ (decode code 226 = .ok (.iaload, 1)) ∧ (decode code 227 = .ok (.aload_n 0, 1)) ∧ (decode code 228 = .ok (.iload 4, 2)) ∧ (decode code 230 = .ok (.iconst 4, 1)) ∧ (decode code 231 = .ok (.iadd, 1)) ∧ (decode code 232 = .ok (.iaload, 1)) :=
  ⟨by decide +kernel, by decide +kernel, by decide +kernel, by decide +kernel, by decide +kernel, by decide +kernel, by decide +kernel, by decide +kernel, by decide +kernel, by decide +kernel, by decide +kernel, by decide +kernel, by decide +kernel, by decide +kernel, by decide +kernel, by decide +kernel, by decide +kernel, by decide +kernel, by decide +kernel, by decide +kernel, by decide +kernel, by decide +kernel, by decide +kernel, by decide +kernel, by decide +kernel, by decide +kernel, by decide +kernel, by decide +kernel, by decide +kernel, by decide +kernel, by decide +kernel, by decide +kernel, by decide +kernel, by decide +kernel, by decide +kernel, by decide +kernel, by decide +kernel, by decide +kernel, by decide +kernel, by decide +kernel, by decide +kernel, by decide +kernel, by decide +kernel, by decide +kernel, by decide +kernel, by decide +kernel, by decide +kernel, by decide +kernel, by decide +kernel, by decide +kernel, by decide +kernel, by decide +kernel, by decide +kernel, by decide +kernel, by decide +kernel, by decide +kernel, by decide +kernel, by decide +kernel, by decide +kernel, by decide +kernel⟩
theorem D_LA_law_2 : (decode code 233 = .ok (.invokevirtual 72, 3)) ∧ (decode code 236 = .ok (.goto 816, 3)) ∧ (decode code 239 = .ok (.aload_n 1, 1)) ∧ (decode code 240 = .ok (.aload_n 0, 1)) ∧ (decode code 241 = .ok (.iload 4, 2)) ∧ (decode code 243 = .ok (.iconst 1, 1)) ∧ (decode code 244 = .ok (.iadd, 1)) ∧ (decode code 245 = .ok (.iaload, 1)) ∧ (decode code 246 = .ok (.aload_n 0, 1)) ∧ (decode code 247 = .ok (.iload 4, 2)) ∧ (decode code 249 = .ok (.iconst 2, 1)) ∧ (decode code 250 = .ok (.iadd, 1)) ∧ (decode code 251 = .ok (.iaload, 1)) ∧ (decode code 252 = .ok (.ifCond .eq 7, 3)) ∧ (decode code 255 = .ok (.iconst 1, 1)) ∧ (decode code 256 = .ok (.goto 4, 3)) ∧ (decode code 259 = .ok (.iconst 0, 1)) ∧ (decode code 260 = .ok (.invokestatic 73, 3)) ∧ (decode code 263 = .ok (.istore 5, 2)) ∧ (decode code 265 = .ok (.aload_n 2, 1)) ∧ (decode code 266 = .ok (.aload_n 0, 1)) ∧ (decode code 267 = .ok (.iload 4, 2)) ∧ (decode code 269 = .ok (.iconst 1, 1)) ∧ (decode code 270 = .ok (.iadd, 1)) ∧ (decode code 271 = .ok (.iaload, 1)) ∧ (decode code 272 = .ok (.aload_n 0, 1)) ∧ (decode code 273 = .ok (.iload 4, 2)) ∧ (decode code 275 = .ok (.iconst 2, 1)) ∧ (decode code 276 = .ok (.iadd, 1)) ∧ (decode code 277 = .ok (.iaload, 1)) ∧ (decode code 278 = .ok (.ifCond .eq 7, 3)) ∧ (decode code 281 = .ok (.iconst 1, 1)) ∧ (decode code 282 = .ok (.goto 4, 3)) ∧ (decode code 285 = .ok (.iconst 0, 1)) ∧ (decode code 286 = .ok (.invokevirtual 76, 3)) ∧ (decode code 289 = .ok (.aload_n 2, 1)) ∧ (decode code 290 = .ok (.invokevirtual 65, 3)) ∧ (decode code 293 = .ok (.iload 5, 2)) ∧ (decode code 295 = .ok (.if_icmp .eq 5, 3)) ∧ (decode code 298 = .ok (.iconst 0, 1)) ∧ (decode code 299 = .ok (.ireturn, 1)) ∧ (decode code 300 = .ok (.goto 752, 3)) ∧ (decode code 303 = .ok (.aload_n 1, 1)) ∧ (decode code 304 = .ok (.aload_n 0, 1)) ∧ (decode code 305 = .ok (.iload 4, 2)) ∧ (decode code 307 = .ok (.iconst 1, 1)) ∧ (decode code 308 = .ok (.iadd, 1)) ∧ (decode code 309 = .ok (.iaload, 1)) ∧ (decode code 310 = .ok (.aload_n 0, 1)) ∧ (decode code 311 = .ok (.iload 4, 2)) ∧ (decode code 313 = .ok (.iconst 2, 1)) ∧ (decode code 314 = .ok (.iadd, 1)) ∧ (decode code 315 = .ok (.iaload, 1)) ∧ (decode code 316 = .ok (.aload_n 0, 1)) ∧ (decode code 317 = .ok (.iload 4, 2)) ∧ (decode code 319 = .ok (.iconst 3, 1)) ∧ (decode code 320 = .ok (.iadd, 1)) ∧ (decode code 321 = .ok (.iaload, 1)) ∧ (decode code 322 = .ok (.aload_n 0, 1)) ∧ (decode code 323 = .ok (.iload 4, 2)) :=
  ⟨by decide +kernel, by decide +kernel, by decide +kernel, by decide +kernel, by decide +kernel, by decide +kernel, by decide +kernel, by decide +kernel, by decide +kernel, by decide +kernel, by decide +kernel, by decide +kernel, by decide +kernel, by decide +kernel, by decide +kernel, by decide +kernel, by decide +kernel, by decide +kernel, by decide +kernel, by decide +kernel, by decide +kernel, by decide +kernel, by decide +kernel, by decide +kernel, by decide +kernel, by decide +kernel, by decide +kernel, by decide +kernel, by decide +kernel, by decide +kernel, by decide +kernel, by decide +kernel, by decide +kernel, by decide +kernel, by decide +kernel, by decide +kernel, by decide +kernel, by decide +kernel, by decide +kernel, by decide +kernel, by decide +kernel, by decide +kernel, by decide +kernel, by decide +kernel, by decide +kernel, by decide +kernel, by decide +kernel, by decide +kernel, by decide +kernel, by decide +kernel, by decide +kernel, by decide +kernel, by decide +kernel, by decide +kernel, by decide +kernel, by decide +kernel, by decide +kernel, by decide +kernel, by decide +kernel, by decide +kernel⟩
theorem D_LA_law_3 : (decode code 325 = .ok (.iconst 4, 1)) ∧ (decode code 326 = .ok (.iadd, 1)) ∧ (decode code 327 = .ok (.iaload, 1)) ∧ (decode code 328 = .ok (.aload_n 0, 1)) ∧ (decode code 329 = .ok (.iload 4, 2)) ∧ (decode code 331 = .ok (.iconst 5, 1)) ∧ (decode code 332 = .ok (.iadd, 1)) ∧ (decode code 333 = .ok (.iaload, 1)) ∧ (decode code 334 = .ok (.aload_n 0, 1)) ∧ (decode code 335 = .ok (.iload 4, 2)) ∧ (decode code 337 = .ok (.bipush 6, 2)) ∧ (decode code 339 = .ok (.iadd, 1)) ∧ (decode code 340 = .ok (.iaload, 1)) ∧ (decode code 341 = .ok (.aload_n 0, 1)) ∧ (decode code 342 = .ok (.iload 4, 2)) ∧ (decode code 344 = .ok (.bipush 7, 2)) ∧ (decode code 346 = .ok (.iadd, 1)) ∧ (decode code 347 = .ok (.iaload, 1)) ∧ (decode code 348 = .ok (.aload_n 0, 1)) ∧ (decode code 349 = .ok (.iload 4, 2)) ∧ (decode code 351 = .ok (.bipush 8, 2)) ∧ (decode code 353 = .ok (.iadd, 1)) ∧ (decode code 354 = .ok (.iaload, 1)) ∧ (decode code 355 = .ok (.invokestatic 77, 3)) ∧ (decode code 358 = .ok (.istore 5, 2)) ∧ (decode code 360 = .ok (.aload_n 2, 1)) ∧ (decode code 361 = .ok (.aload_n 0, 1)) ∧ (decode code 362 = .ok (.iload 4, 2)) ∧ (decode code 364 = .ok (.iconst 1, 1)) ∧ (decode code 365 = .ok (.iadd, 1)) ∧ (decode code 366 = .ok (.iaload, 1)) ∧ (decode code 367 = .ok (.aload_n 0, 1)) ∧ (decode code 368 = .ok (.iload 4, 2)) ∧ (decode code 370 = .ok (.iconst 2, 1)) ∧ (decode code 371 = .ok (.iadd, 1)) ∧ (decode code 372 = .ok (.iaload, 1)) ∧ (decode code 373 = .ok (.aload_n 0, 1)) ∧ (decode code 374 = .ok (.iload 4, 2)) ∧ (decode code 376 = .ok (.iconst 3, 1)) ∧ (decode code 377 = .ok (.iadd, 1)) ∧ (decode code 378 = .ok (.iaload, 1)) ∧ (decode code 379 = .ok (.aload_n 0, 1)) ∧ (decode code 380 = .ok (.iload 4, 2)) ∧ (decode code 382 = .ok (.iconst 4, 1)) ∧ (decode code 383 = .ok (.iadd, 1)) ∧ (decode code 384 = .ok (.iaload, 1)) ∧ (decode code 385 = .ok (.aload_n 0, 1)) ∧ (decode code 386 = .ok (.iload 4, 2)) ∧ (decode code 388 = .ok (.iconst 5, 1)) ∧ (decode code 389 = .ok (.iadd, 1)) ∧ (decode code 390 = .ok (.iaload, 1)) ∧ (decode code 391 = .ok (.aload_n 0, 1)) ∧ (decode code 392 = .ok (.iload 4, 2)) ∧ (decode code 394 = .ok (.bipush 6, 2)) ∧ (decode code 396 = .ok (.iadd, 1)) ∧ (decode code 397 = .ok (.iaload, 1)) ∧ (decode code 398 = .ok (.aload_n 0, 1)) ∧ (decode code 399 = .ok (.iload 4, 2)) ∧ (decode code 401 = .ok (.bipush 7, 2)) ∧ (decode code 403 = .ok (.iadd, 1)) :=
  ⟨by decide +kernel, by decide +kernel, by decide +kernel, by decide +kernel, by decide +kernel, by decide +kernel, by decide +kernel, by decide +kernel, by decide +kernel, by decide +kernel, by decide +kernel, by decide +kernel, by decide +kernel, by decide +kernel, by decide +kernel, by decide +kernel, by decide +kernel, by decide +kernel, by decide +kernel, by decide +kernel, by decide +kernel, by decide +kernel, by decide +kernel, by decide +kernel, by decide +kernel, by decide +kernel, by decide +kernel, by decide +kernel, by decide +kernel, by decide +kernel, by decide +kernel, by decide +kernel, by decide +kernel, by decide +kernel, by decide +kernel, by decide +kernel, by decide +kernel, by decide +kernel, by decide +kernel, by decide +kernel, by decide +kernel, by decide +kernel, by decide +kernel, by decide +kernel, by decide +kernel, by decide +kernel, by decide +kernel, by decide +kernel, by decide +kernel, by decide +kernel, by decide +kernel, by decide +kernel, by decide +kernel, by decide +kernel, by decide +kernel, by decide +kernel, by decide +kernel, by decide +kernel, by decide +kernel, by decide +kernel⟩
theorem D_LA_law_4 : (decode code 404 = .ok (.iaload, 1)) ∧ (decode code 405 = .ok (.aload_n 0, 1)) ∧ (decode code 406 = .ok (.iload 4, 2)) ∧ (decode code 408 = .ok (.bipush 8, 2)) ∧ (decode code 410 = .ok (.iadd, 1)) ∧ (decode code 411 = .ok (.iaload, 1)) ∧ (decode code 412 = .ok (.invokevirtual 80, 3)) ∧ (decode code 415 = .ok (.aload_n 2, 1)) ∧ (decode code 416 = .ok (.invokevirtual 65, 3)) ∧ (decode code 419 = .ok (.iload 5, 2)) ∧ (decode code 421 = .ok (.if_icmp .eq 5, 3)) ∧ (decode code 424 = .ok (.iconst 0, 1)) ∧ (decode code 425 = .ok (.ireturn, 1)) ∧ (decode code 426 = .ok (.goto 626, 3)) ∧ (decode code 429 = .ok (.aload_n 1, 1)) ∧ (decode code 430 = .ok (.aload_n 0, 1)) ∧ (decode code 431 = .ok (.iload 4, 2)) ∧ (decode code 433 = .ok (.iconst 1, 1)) ∧ (decode code 434 = .ok (.iadd, 1)) ∧ (decode code 435 = .ok (.iaload, 1)) ∧ (decode code 436 = .ok (.aload_n 0, 1)) ∧ (decode code 437 = .ok (.iload 4, 2)) ∧ (decode code 439 = .ok (.iconst 2, 1)) ∧ (decode code 440 = .ok (.iadd, 1)) ∧ (decode code 441 = .ok (.iaload, 1)) ∧ (decode code 442 = .ok (.aload_n 0, 1)) ∧ (decode code 443 = .ok (.iload 4, 2)) ∧ (decode code 445 = .ok (.iconst 3, 1)) ∧ (decode code 446 = .ok (.iadd, 1)) ∧ (decode code 447 = .ok (.iaload, 1)) ∧ (decode code 448 = .ok (.aload_n 0, 1)) ∧ (decode code 449 = .ok (.iload 4, 2)) ∧ (decode code 451 = .ok (.iconst 4, 1)) ∧ (decode code 452 = .ok (.iadd, 1)) ∧ (decode code 453 = .ok (.iaload, 1)) ∧ (decode code 454 = .ok (.aload_n 0, 1)) ∧ (decode code 455 = .ok (.iload 4, 2)) ∧ (decode code 457 = .ok (.iconst 5, 1)) ∧ (decode code 458 = .ok (.iadd, 1)) ∧ (decode code 459 = .ok (.iaload, 1)) ∧ (decode code 460 = .ok (.aload_n 0, 1)) ∧ (decode code 461 = .ok (.iload 4, 2)) ∧ (decode code 463 = .ok (.bipush 6, 2)) ∧ (decode code 465 = .ok (.iadd, 1)) ∧ (decode code 466 = .ok (.iaload, 1)) ∧ (decode code 467 = .ok (.invokestatic 81, 3)) ∧ (decode code 470 = .ok (.istore 5, 2)) ∧ (decode code 472 = .ok (.aload_n 2, 1)) ∧ (decode code 473 = .ok (.aload_n 0, 1)) ∧ (decode code 474 = .ok (.iload 4, 2)) ∧ (decode code 476 = .ok (.iconst 1, 1)) ∧ (decode code 477 = .ok (.iadd, 1)) ∧ (decode code 478 = .ok (.iaload, 1)) ∧ (decode code 479 = .ok (.aload_n 0, 1)) ∧ (decode code 480 = .ok (.iload 4, 2)) ∧ (decode code 482 = .ok (.iconst 2, 1)) ∧ (decode code 483 = .ok (.iadd, 1)) ∧ (decode code 484 = .ok (.iaload, 1)) ∧ (decode code 485 = .ok (.aload_n 0, 1)) ∧ (decode code 486 = .ok (.iload 4, 2)) :=
  ⟨by decide +kernel, by decide +kernel, by decide +kernel, by decide +kernel, by decide +kernel, by decide +kernel, by decide +kernel, by decide +kernel, by decide +kernel, by decide +kernel, by decide +kernel, by decide +kernel, by decide +kernel, by decide +kernel, by decide +kernel, by decide +kernel, by decide +kernel, by decide +kernel, by decide +kernel, by decide +kernel, by decide +kernel, by decide +kernel, by decide +kernel, by decide +kernel, by decide +kernel, by decide +kernel, by decide +kernel, by decide +kernel, by decide +kernel, by decide +kernel, by decide +kernel, by decide +kernel, by decide +kernel, by decide +kernel, by decide +kernel, by decide +kernel, by decide +kernel, by decide +kernel, by decide +kernel, by decide +kernel, by decide +kernel, by decide +kernel, by decide +kernel, by decide +kernel, by decide +kernel, by decide +kernel, by decide +kernel, by decide +kernel, by decide +kernel, by decide +kernel, by decide +kernel, by decide +kernel, by decide +kernel, by decide +kernel, by decide +kernel, by decide +kernel, by decide +kernel, by decide +kernel, by decide +kernel, by decide +kernel⟩
theorem D_LA_law_5 : (decode code 488 = .ok (.iconst 3, 1)) ∧ (decode code 489 = .ok (.iadd, 1)) ∧ (decode code 490 = .ok (.iaload, 1)) ∧ (decode code 491 = .ok (.aload_n 0, 1)) ∧ (decode code 492 = .ok (.iload 4, 2)) ∧ (decode code 494 = .ok (.iconst 4, 1)) ∧ (decode code 495 = .ok (.iadd, 1)) ∧ (decode code 496 = .ok (.iaload, 1)) ∧ (decode code 497 = .ok (.aload_n 0, 1)) ∧ (decode code 498 = .ok (.iload 4, 2)) ∧ (decode code 500 = .ok (.iconst 5, 1)) ∧ (decode code 501 = .ok (.iadd, 1)) ∧ (decode code 502 = .ok (.iaload, 1)) ∧ (decode code 503 = .ok (.aload_n 0, 1)) ∧ (decode code 504 = .ok (.iload 4, 2)) ∧ (decode code 506 = .ok (.bipush 6, 2)) ∧ (decode code 508 = .ok (.iadd, 1)) ∧ (decode code 509 = .ok (.iaload, 1)) ∧ (decode code 510 = .ok (.invokevirtual 84, 3)) ∧ (decode code 513 = .ok (.aload_n 2, 1)) ∧ (decode code 514 = .ok (.invokevirtual 65, 3)) ∧ (decode code 517 = .ok (.iload 5, 2)) ∧ (decode code 519 = .ok (.if_icmp .eq 5, 3)) ∧ (decode code 522 = .ok (.iconst 0, 1)) ∧ (decode code 523 = .ok (.ireturn, 1)) ∧ (decode code 524 = .ok (.goto 528, 3)) ∧ (decode code 527 = .ok (.aload_n 1, 1)) ∧ (decode code 528 = .ok (.aload_n 0, 1)) ∧ (decode code 529 = .ok (.iload 4, 2)) ∧ (decode code 531 = .ok (.iconst 1, 1)) ∧ (decode code 532 = .ok (.iadd, 1)) ∧ (decode code 533 = .ok (.iaload, 1)) ∧ (decode code 534 = .ok (.invokevirtual 85, 3)) ∧ (decode code 537 = .ok (.aload_n 2, 1)) ∧ (decode code 538 = .ok (.aload_n 0, 1)) ∧ (decode code 539 = .ok (.iload 4, 2)) ∧ (decode code 541 = .ok (.iconst 1, 1)) ∧ (decode code 542 = .ok (.iadd, 1)) ∧ (decode code 543 = .ok (.iaload, 1)) ∧ (decode code 544 = .ok (.invokevirtual 88, 3)) ∧ (decode code 547 = .ok (.goto 505, 3)) ∧ (decode code 550 = .ok (.aload_n 1, 1)) ∧ (decode code 551 = .ok (.aload_n 0, 1)) ∧ (decode code 552 = .ok (.iload 4, 2)) ∧ (decode code 554 = .ok (.iconst 1, 1)) ∧ (decode code 555 = .ok (.iadd, 1)) ∧ (decode code 556 = .ok (.iaload, 1)) ∧ (decode code 557 = .ok (.invokestatic 89, 3)) ∧ (decode code 560 = .ok (.istore 5, 2)) ∧ (decode code 562 = .ok (.aload_n 2, 1)) ∧ (decode code 563 = .ok (.aload_n 0, 1)) ∧ (decode code 564 = .ok (.iload 4, 2)) ∧ (decode code 566 = .ok (.iconst 1, 1)) ∧ (decode code 567 = .ok (.iadd, 1)) ∧ (decode code 568 = .ok (.iaload, 1)) ∧ (decode code 569 = .ok (.invokevirtual 92, 3)) ∧ (decode code 572 = .ok (.aload_n 2, 1)) ∧ (decode code 573 = .ok (.invokevirtual 65, 3)) ∧ (decode code 576 = .ok (.iload 5, 2)) ∧ (decode code 578 = .ok (.if_icmp .eq 5, 3)) :=
  ⟨by decide +kernel, by decide +kernel, by decide +kernel, by decide +kernel, by decide +kernel, by decide +kernel, by decide +kernel, by decide +kernel, by decide +kernel, by decide +kernel, by decide +kernel, by decide +kernel, by decide +kernel, by decide +kernel, by decide +kernel, by decide +kernel, by decide +kernel, by decide +kernel, by decide +kernel, by decide +kernel, by decide +kernel, by decide +kernel, by decide +kernel, by decide +kernel, by decide +kernel, by decide +kernel, by decide +kernel, by decide +kernel, by decide +kernel, by decide +kernel, by decide +kernel, by decide +kernel, by decide +kernel, by decide +kernel, by decide +kernel, by decide +kernel, by decide +kernel, by decide +kernel, by decide +kernel, by decide +kernel, by decide +kernel, by decide +kernel, by decide +kernel, by decide +kernel, by decide +kernel, by decide +kernel, by decide +kernel, by decide +kernel, by decide +kernel, by decide +kernel, by decide +kernel, by decide +kernel, by decide +kernel, by decide +kernel, by decide +kernel, by decide +kernel, by decide +kernel, by decide +kernel, by decide +kernel, by decide +kernel⟩
theorem D_LA_law_6 : (decode code 581 = .ok (.iconst 0, 1)) ∧ (decode code 582 = .ok (.ireturn, 1)) ∧ (decode code 583 = .ok (.goto 469, 3)) ∧ (decode code 586 = .ok (.aload_n 1, 1)) ∧ (decode code 587 = .ok (.aload_n 0, 1)) ∧ (decode code 588 = .ok (.iload 4, 2)) ∧ (decode code 590 = .ok (.iconst 1, 1)) ∧ (decode code 591 = .ok (.iadd, 1)) ∧ (decode code 592 = .ok (.iaload, 1)) ∧ (decode code 593 = .ok (.invokestatic 93, 3)) ∧ (decode code 596 = .ok (.istore 5, 2)) ∧ (decode code 598 = .ok (.aload_n 2, 1)) ∧ (decode code 599 = .ok (.aload_n 0, 1)) ∧ (decode code 600 = .ok (.iload 4, 2)) ∧ (decode code 602 = .ok (.iconst 1, 1)) ∧ (decode code 603 = .ok (.iadd, 1)) ∧ (decode code 604 = .ok (.iaload, 1)) ∧ (decode code 605 = .ok (.invokevirtual 95, 3)) ∧ (decode code 608 = .ok (.aload_n 2, 1)) ∧ (decode code 609 = .ok (.invokevirtual 65, 3)) ∧ (decode code 612 = .ok (.iload 5, 2)) ∧ (decode code 614 = .ok (.if_icmp .eq 5, 3)) ∧ (decode code 617 = .ok (.iconst 0, 1)) ∧ (decode code 618 = .ok (.ireturn, 1)) ∧ (decode code 619 = .ok (.goto 433, 3)) ∧ (decode code 622 = .ok (.aload_n 1, 1)) ∧ (decode code 623 = .ok (.aload_n 0, 1)) ∧ (decode code 624 = .ok (.iload 4, 2)) ∧ (decode code 626 = .ok (.iconst 1, 1)) ∧ (decode code 627 = .ok (.iadd, 1)) ∧ (decode code 628 = .ok (.iaload, 1)) ∧ (decode code 629 = .ok (.aload_n 0, 1)) ∧ (decode code 630 = .ok (.iload 4, 2)) ∧ (decode code 632 = .ok (.iconst 2, 1)) ∧ (decode code 633 = .ok (.iadd, 1)) ∧ (decode code 634 = .ok (.iaload, 1)) ∧ (decode code 635 = .ok (.aload_n 0, 1)) ∧ (decode code 636 = .ok (.iload 4, 2)) ∧ (decode code 638 = .ok (.iconst 3, 1)) ∧ (decode code 639 = .ok (.iadd, 1)) ∧ (decode code 640 = .ok (.iaload, 1)) ∧ (decode code 641 = .ok (.aload_n 0, 1)) ∧ (decode code 642 = .ok (.iload 4, 2)) ∧ (decode code 644 = .ok (.iconst 4, 1)) ∧ (decode code 645 = .ok (.iadd, 1)) ∧ (decode code 646 = .ok (.iaload, 1)) ∧ (decode code 647 = .ok (.aload_n 3, 1)) ∧ (decode code 648 = .ok (.invokestatic 96, 3)) ∧ (decode code 651 = .ok (.istore 5, 2)) ∧ (decode code 653 = .ok (.aload_n 2, 1)) ∧ (decode code 654 = .ok (.aload_n 0, 1)) ∧ (decode code 655 = .ok (.iload 4, 2)) ∧ (decode code 657 = .ok (.iconst 1, 1)) ∧ (decode code 658 = .ok (.iadd, 1)) ∧ (decode code 659 = .ok (.iaload, 1)) ∧ (decode code 660 = .ok (.aload_n 0, 1)) ∧ (decode code 661 = .ok (.iload 4, 2)) ∧ (decode code 663 = .ok (.iconst 2, 1)) ∧ (decode code 664 = .ok (.iadd, 1)) ∧ (decode code 665 = .ok (.iaload, 1)) :=
  ⟨by decide +kernel, by decide +kernel, by decide +kernel, by decide +kernel, by decide +kernel, by decide +kernel, by decide +kernel, by decide +kernel, by decide +kernel, by decide +kernel, by decide +kernel, by decide +kernel, by decide +kernel, by decide +kernel, by decide +kernel, by decide +kernel, by decide +kernel, by decide +kernel, by decide +kernel, by decide +kernel, by decide +kernel, by decide +kernel, by decide +kernel, by decide +kernel, by decide +kernel, by decide +kernel, by decide +kernel, by decide +kernel, by decide +kernel, by decide +kernel, by decide +kernel, by decide +kernel, by decide +kernel, by decide +kernel, by decide +kernel, by decide +kernel, by decide +kernel, by decide +kernel, by decide +kernel, by decide +kernel, by decide +kernel, by decide +kernel, by decide +kernel, by decide +kernel, by decide +kernel, by decide +kernel, by decide +kernel, by decide +kernel, by decide +kernel, by decide +kernel, by decide +kernel, by decide +kernel, by decide +kernel, by decide +kernel, by decide +kernel, by decide +kernel, by decide +kernel, by decide +kernel, by decide +kernel, by decide +kernel⟩
theorem D_LA_law_7 : (decode code 666 = .ok (.aload_n 0, 1)) ∧ (decode code 667 = .ok (.iload 4, 2)) ∧ (decode code 669 = .ok (.iconst 3, 1)) ∧ (decode code 670 = .ok (.iadd, 1)) ∧ (decode code 671 = .ok (.iaload, 1)) ∧ (decode code 672 = .ok (.aload_n 0, 1)) ∧ (decode code 673 = .ok (.iload 4, 2)) ∧ (decode code 675 = .ok (.iconst 4, 1)) ∧ (decode code 676 = .ok (.iadd, 1)) ∧ (decode code 677 = .ok (.iaload, 1)) ∧ (decode code 678 = .ok (.invokevirtual 99, 3)) ∧ (decode code 681 = .ok (.istore 6, 2)) ∧ (decode code 683 = .ok (.aload_n 2, 1)) ∧ (decode code 684 = .ok (.invokevirtual 65, 3)) ∧ (decode code 687 = .ok (.iload 5, 2)) ∧ (decode code 689 = .ok (.if_icmp .eq 5, 3)) ∧ (decode code 692 = .ok (.iconst 0, 1)) ∧ (decode code 693 = .ok (.ireturn, 1)) ∧ (decode code 694 = .ok (.iload 5, 2)) ∧ (decode code 696 = .ok (.ifCond .ne 15, 3)) ∧ (decode code 699 = .ok (.aload_n 3, 1)) ∧ (decode code 700 = .ok (.iconst 0, 1)) ∧ (decode code 701 = .ok (.laload, 1)) ∧ (decode code 702 = .ok (.iload 6, 2)) ∧ (decode code 704 = .ok (.i2l, 1)) ∧ (decode code 705 = .ok (.lcmp, 1)) ∧ (decode code 706 = .ok (.ifCond .eq 5, 3)) ∧ (decode code 709 = .ok (.iconst 0, 1)) ∧ (decode code 710 = .ok (.ireturn, 1)) ∧ (decode code 711 = .ok (.goto 341, 3)) ∧ (decode code 714 = .ok (.aload_n 1, 1)) ∧ (decode code 715 = .ok (.aload_n 0, 1)) ∧ (decode code 716 = .ok (.iload 4, 2)) ∧ (decode code 718 = .ok (.iconst 1, 1)) ∧ (decode code 719 = .ok (.iadd, 1)) ∧ (decode code 720 = .ok (.iaload, 1)) ∧ (decode code 721 = .ok (.aload_n 0, 1)) ∧ (decode code 722 = .ok (.iload 4, 2)) ∧ (decode code 724 = .ok (.iconst 2, 1)) ∧ (decode code 725 = .ok (.iadd, 1)) ∧ (decode code 726 = .ok (.iaload, 1)) ∧ (decode code 727 = .ok (.aload_n 0, 1)) ∧ (decode code 728 = .ok (.iload 4, 2)) ∧ (decode code 730 = .ok (.iconst 3, 1)) ∧ (decode code 731 = .ok (.iadd, 1)) ∧ (decode code 732 = .ok (.iaload, 1)) ∧ (decode code 733 = .ok (.aload_n 0, 1)) ∧ (decode code 734 = .ok (.iload 4, 2)) ∧ (decode code 736 = .ok (.iconst 4, 1)) ∧ (decode code 737 = .ok (.iadd, 1)) ∧ (decode code 738 = .ok (.iaload, 1)) ∧ (decode code 739 = .ok (.aload_n 0, 1)) ∧ (decode code 740 = .ok (.iload 4, 2)) ∧ (decode code 742 = .ok (.iconst 5, 1)) ∧ (decode code 743 = .ok (.iadd, 1)) ∧ (decode code 744 = .ok (.iaload, 1)) ∧ (decode code 745 = .ok (.aload_n 0, 1)) ∧ (decode code 746 = .ok (.iload 4, 2)) ∧ (decode code 748 = .ok (.bipush 6, 2)) ∧ (decode code 750 = .ok (.iadd, 1)) :=
  ⟨by decide +kernel, by decide +kernel, by decide +kernel, by decide +kernel, by decide +kernel, by decide +kernel, by decide +kernel, by decide +kernel, by decide +kernel, by decide +kernel, by decide +kernel, by decide +kernel, by decide +kernel, by decide +kernel, by decide +kernel, by decide +kernel, by decide +kernel, by decide +kernel, by decide +kernel, by decide +kernel, by decide +kernel, by decide +kernel, by decide +kernel, by decide +kernel, by decide +kernel, by decide +kernel, by decide +kernel, by decide +kernel, by decide +kernel, by decide +kernel, by decide +kernel, by decide +kernel, by decide +kernel, by decide +kernel, by decide +kernel, by decide +kernel, by decide +kernel, by decide +kernel, by decide +kernel, by decide +kernel, by decide +kernel, by decide +kernel, by decide +kernel, by decide +kernel, by decide +kernel, by decide +kernel, by decide +kernel, by decide +kernel, by decide +kernel, by decide +kernel, by decide +kernel, by decide +kernel, by decide +kernel, by decide +kernel, by decide +kernel, by decide +kernel, by decide +kernel, by decide +kernel, by decide +kernel, by decide +kernel⟩
theorem D_LA_law_8 : (decode code 751 = .ok (.iaload, 1)) ∧ (decode code 752 = .ok (.aload_n 0, 1)) ∧ (decode code 753 = .ok (.iload 4, 2)) ∧ (decode code 755 = .ok (.bipush 7, 2)) ∧ (decode code 757 = .ok (.iadd, 1)) ∧ (decode code 758 = .ok (.iaload, 1)) ∧ (decode code 759 = .ok (.aload_n 0, 1)) ∧ (decode code 760 = .ok (.iload 4, 2)) ∧ (decode code 762 = .ok (.bipush 8, 2)) ∧ (decode code 764 = .ok (.iadd, 1)) ∧ (decode code 765 = .ok (.iaload, 1)) ∧ (decode code 766 = .ok (.aload_n 3, 1)) ∧ (decode code 767 = .ok (.invokestatic 100, 3)) ∧ (decode code 770 = .ok (.istore 5, 2)) ∧ (decode code 772 = .ok (.aload_n 2, 1)) ∧ (decode code 773 = .ok (.aload_n 0, 1)) ∧ (decode code 774 = .ok (.iload 4, 2)) ∧ (decode code 776 = .ok (.iconst 1, 1)) ∧ (decode code 777 = .ok (.iadd, 1)) ∧ (decode code 778 = .ok (.iaload, 1)) ∧ (decode code 779 = .ok (.aload_n 0, 1)) ∧ (decode code 780 = .ok (.iload 4, 2)) ∧ (decode code 782 = .ok (.iconst 2, 1)) ∧ (decode code 783 = .ok (.iadd, 1)) ∧ (decode code 784 = .ok (.iaload, 1)) ∧ (decode code 785 = .ok (.aload_n 0, 1)) ∧ (decode code 786 = .ok (.iload 4, 2)) ∧ (decode code 788 = .ok (.iconst 3, 1)) ∧ (decode code 789 = .ok (.iadd, 1)) ∧ (decode code 790 = .ok (.iaload, 1)) ∧ (decode code 791 = .ok (.aload_n 0, 1)) ∧ (decode code 792 = .ok (.iload 4, 2)) ∧ (decode code 794 = .ok (.iconst 4, 1)) ∧ (decode code 795 = .ok (.iadd, 1)) ∧ (decode code 796 = .ok (.iaload, 1)) ∧ (decode code 797 = .ok (.aload_n 0, 1)) ∧ (decode code 798 = .ok (.iload 4, 2)) ∧ (decode code 800 = .ok (.iconst 5, 1)) ∧ (decode code 801 = .ok (.iadd, 1)) ∧ (decode code 802 = .ok (.iaload, 1)) ∧ (decode code 803 = .ok (.aload_n 0, 1)) ∧ (decode code 804 = .ok (.iload 4, 2)) ∧ (decode code 806 = .ok (.bipush 6, 2)) ∧ (decode code 808 = .ok (.iadd, 1)) ∧ (decode code 809 = .ok (.iaload, 1)) ∧ (decode code 810 = .ok (.aload_n 0, 1)) ∧ (decode code 811 = .ok (.iload 4, 2)) ∧ (decode code 813 = .ok (.bipush 7, 2)) ∧ (decode code 815 = .ok (.iadd, 1)) ∧ (decode code 816 = .ok (.iaload, 1)) ∧ (decode code 817 = .ok (.aload_n 0, 1)) ∧ (decode code 818 = .ok (.iload 4, 2)) ∧ (decode code 820 = .ok (.bipush 8, 2)) ∧ (decode code 822 = .ok (.iadd, 1)) ∧ (decode code 823 = .ok (.iaload, 1)) ∧ (decode code 824 = .ok (.invokevirtual 103, 3)) ∧ (decode code 827 = .ok (.istore 6, 2)) ∧ (decode code 829 = .ok (.aload_n 2, 1)) ∧ (decode code 830 = .ok (.invokevirtual 65, 3)) ∧ (decode code 833 = .ok (.iload 5, 2)) :=
  ⟨by decide +kernel, by decide +kernel, by decide +kernel, by decide +kernel, by decide +kernel, by decide +kernel, by decide +kernel, by decide +kernel, by decide +kernel, by decide +kernel, by decide +kernel, by decide +kernel, by decide +kernel, by decide +kernel, by decide +kernel, by decide +kernel, by decide +kernel, by decide +kernel, by decide +kernel, by decide +kernel, by decide +kernel, by decide +kernel, by decide +kernel, by decide +kernel, by decide +kernel, by decide +kernel, by decide +kernel, by decide +kernel, by decide +kernel, by decide +kernel, by decide +kernel, by decide +kernel, by decide +kernel, by decide +kernel, by decide +kernel, by decide +kernel, by decide +kernel, by decide +kernel, by decide +kernel, by decide +kernel, by decide +kernel, by decide +kernel, by decide +kernel, by decide +kernel, by decide +kernel, by decide +kernel, by decide +kernel, by decide +kernel, by decide +kernel, by decide +kernel, by decide +kernel, by decide +kernel, by decide +kernel, by decide +kernel, by decide +kernel, by decide +kernel, by decide +kernel, by decide +kernel, by decide +kernel, by decide +kernel⟩
theorem D_LA_law_9 : (decode code 835 = .ok (.if_icmp .eq 5, 3)) ∧ (decode code 838 = .ok (.iconst 0, 1)) ∧ (decode code 839 = .ok (.ireturn, 1)) ∧ (decode code 840 = .ok (.iload 5, 2)) ∧ (decode code 842 = .ok (.ifCond .ne 15, 3)) ∧ (decode code 845 = .ok (.aload_n 3, 1)) ∧ (decode code 846 = .ok (.iconst 0, 1)) ∧ (decode code 847 = .ok (.laload, 1)) ∧ (decode code 848 = .ok (.iload 6, 2)) ∧ (decode code 850 = .ok (.i2l, 1)) ∧ (decode code 851 = .ok (.lcmp, 1)) ∧ (decode code 852 = .ok (.ifCond .eq 5, 3)) ∧ (decode code 855 = .ok (.iconst 0, 1)) ∧ (decode code 856 = .ok (.ireturn, 1)) ∧ (decode code 857 = .ok (.goto 195, 3)) ∧ (decode code 860 = .ok (.aload_n 1, 1)) ∧ (decode code 861 = .ok (.aload_n 0, 1)) ∧ (decode code 862 = .ok (.iload 4, 2)) ∧ (decode code 864 = .ok (.iconst 1, 1)) ∧ (decode code 865 = .ok (.iadd, 1)) ∧ (decode code 866 = .ok (.iaload, 1)) ∧ (decode code 867 = .ok (.aload_n 0, 1)) ∧ (decode code 868 = .ok (.iload 4, 2)) ∧ (decode code 870 = .ok (.iconst 2, 1)) ∧ (decode code 871 = .ok (.iadd, 1)) ∧ (decode code 872 = .ok (.iaload, 1)) ∧ (decode code 873 = .ok (.aload_n 0, 1)) ∧ (decode code 874 = .ok (.iload 4, 2)) ∧ (decode code 876 = .ok (.iconst 3, 1)) ∧ (decode code 877 = .ok (.iadd, 1)) ∧ (decode code 878 = .ok (.iaload, 1)) ∧ (decode code 879 = .ok (.aload_n 3, 1)) ∧ (decode code 880 = .ok (.invokestatic 104, 3)) ∧ (decode code 883 = .ok (.istore 5, 2)) ∧ (decode code 885 = .ok (.aload_n 2, 1)) ∧ (decode code 886 = .ok (.aload_n 0, 1)) ∧ (decode code 887 = .ok (.iload 4, 2)) ∧ (decode code 889 = .ok (.iconst 1, 1)) ∧ (decode code 890 = .ok (.iadd, 1)) ∧ (decode code 891 = .ok (.iaload, 1)) ∧ (decode code 892 = .ok (.aload_n 0, 1)) ∧ (decode code 893 = .ok (.iload 4, 2)) ∧ (decode code 895 = .ok (.iconst 2, 1)) ∧ (decode code 896 = .ok (.iadd, 1)) ∧ (decode code 897 = .ok (.iaload, 1)) ∧ (decode code 898 = .ok (.aload_n 0, 1)) ∧ (decode code 899 = .ok (.iload 4, 2)) ∧ (decode code 901 = .ok (.iconst 3, 1)) ∧ (decode code 902 = .ok (.iadd, 1)) ∧ (decode code 903 = .ok (.iaload, 1)) ∧ (decode code 904 = .ok (.invokevirtual 107, 3)) ∧ (decode code 907 = .ok (.istore 6, 2)) ∧ (decode code 909 = .ok (.aload_n 2, 1)) ∧ (decode code 910 = .ok (.invokevirtual 65, 3)) ∧ (decode code 913 = .ok (.iload 5, 2)) ∧ (decode code 915 = .ok (.if_icmp .eq 5, 3)) ∧ (decode code 918 = .ok (.iconst 0, 1)) ∧ (decode code 919 = .ok (.ireturn, 1)) ∧ (decode code 920 = .ok (.iload 5, 2)) ∧ (decode code 922 = .ok (.ifCond .ne 15, 3)) :=
  ⟨by decide +kernel, by decide +kernel, by decide +kernel, by decide +kernel, by decide +kernel, by decide +kernel, by decide +kernel, by decide +kernel, by decide +kernel, by decide +kernel, by decide +kernel, by decide +kernel, by decide +kernel, by decide +kernel, by decide +kernel, by decide +kernel, by decide +kernel, by decide +kernel, by decide +kernel, by decide +kernel, by decide +kernel, by decide +kernel, by decide +kernel, by decide +kernel, by decide +kernel, by decide +kernel, by decide +kernel, by decide +kernel, by decide +kernel, by decide +kernel, by decide +kernel, by decide +kernel, by decide +kernel, by decide +kernel, by decide +kernel, by decide +kernel, by decide +kernel, by decide +kernel, by decide +kernel, by decide +kernel, by decide +kernel, by decide +kernel, by decide +kernel, by decide +kernel, by decide +kernel, by decide +kernel, by decide +kernel, by decide +kernel, by decide +kernel, by decide +kernel, by decide +kernel, by decide +kernel, by decide +kernel, by decide +kernel, by decide +kernel, by decide +kernel, by decide +kernel, by decide +kernel, by decide +kernel, by decide +kernel⟩
theorem D_LA_law_10 : (decode code 925 = .ok (.aload_n 3, 1)) ∧ (decode code 926 = .ok (.iconst 0, 1)) ∧ (decode code 927 = .ok (.laload, 1)) ∧ (decode code 928 = .ok (.iload 6, 2)) ∧ (decode code 930 = .ok (.i2l, 1)) ∧ (decode code 931 = .ok (.lcmp, 1)) ∧ (decode code 932 = .ok (.ifCond .eq 5, 3)) ∧ (decode code 935 = .ok (.iconst 0, 1)) ∧ (decode code 936 = .ok (.ireturn, 1)) ∧ (decode code 937 = .ok (.goto 115, 3)) ∧ (decode code 940 = .ok (.aload_n 1, 1)) ∧ (decode code 941 = .ok (.aload_n 0, 1)) ∧ (decode code 942 = .ok (.iload 4, 2)) ∧ (decode code 944 = .ok (.iconst 1, 1)) ∧ (decode code 945 = .ok (.iadd, 1)) ∧ (decode code 946 = .ok (.iaload, 1)) ∧ (decode code 947 = .ok (.aload_n 3, 1)) ∧ (decode code 948 = .ok (.invokestatic 108, 3)) ∧ (decode code 951 = .ok (.istore 5, 2)) ∧ (decode code 953 = .ok (.aload_n 2, 1)) ∧ (decode code 954 = .ok (.aload_n 0, 1)) ∧ (decode code 955 = .ok (.iload 4, 2)) ∧ (decode code 957 = .ok (.iconst 1, 1)) ∧ (decode code 958 = .ok (.iadd, 1)) ∧ (decode code 959 = .ok (.iaload, 1)) ∧ (decode code 960 = .ok (.invokevirtual 111, 3)) ∧ (decode code 963 = .ok (.istore 6, 2)) ∧ (decode code 965 = .ok (.aload_n 2, 1)) ∧ (decode code 966 = .ok (.invokevirtual 65, 3)) ∧ (decode code 969 = .ok (.iload 5, 2)) ∧ (decode code 971 = .ok (.if_icmp .eq 5, 3)) ∧ (decode code 974 = .ok (.iconst 0, 1)) ∧ (decode code 975 = .ok (.ireturn, 1)) ∧ (decode code 976 = .ok (.iload 5, 2)) ∧ (decode code 978 = .ok (.ifCond .ne 15, 3)) ∧ (decode code 981 = .ok (.aload_n 3, 1)) ∧ (decode code 982 = .ok (.iconst 0, 1)) ∧ (decode code 983 = .ok (.laload, 1)) ∧ (decode code 984 = .ok (.iload 6, 2)) ∧ (decode code 986 = .ok (.i2l, 1)) ∧ (decode code 987 = .ok (.lcmp, 1)) ∧ (decode code 988 = .ok (.ifCond .eq 5, 3)) ∧ (decode code 991 = .ok (.iconst 0, 1)) ∧ (decode code 992 = .ok (.ireturn, 1)) ∧ (decode code 993 = .ok (.goto 59, 3)) ∧ (decode code 996 = .ok (.aload_n 1, 1)) ∧ (decode code 997 = .ok (.aload_n 0, 1)) ∧ (decode code 998 = .ok (.iload 4, 2)) ∧ (decode code 1000 = .ok (.iconst 1, 1)) ∧ (decode code 1001 = .ok (.iadd, 1)) ∧ (decode code 1002 = .ok (.iaload, 1)) ∧ (decode code 1003 = .ok (.aload_n 3, 1)) ∧ (decode code 1004 = .ok (.invokestatic 112, 3)) ∧ (decode code 1007 = .ok (.istore 5, 2)) ∧ (decode code 1009 = .ok (.aload_n 2, 1)) ∧ (decode code 1010 = .ok (.aload_n 0, 1)) ∧ (decode code 1011 = .ok (.iload 4, 2)) ∧ (decode code 1013 = .ok (.iconst 1, 1)) ∧ (decode code 1014 = .ok (.iadd, 1)) ∧ (decode code 1015 = .ok (.iaload, 1)) :=
  ⟨by decide +kernel, by decide +kernel, by decide +kernel, by decide +kernel, by decide +kernel, by decide +kernel, by decide +kernel, by decide +kernel, by decide +kernel, by decide +kernel, by decide +kernel, by decide +kernel, by decide +kernel, by decide +kernel, by decide +kernel, by decide +kernel, by decide +kernel, by decide +kernel, by decide +kernel, by decide +kernel, by decide +kernel, by decide +kernel, by decide +kernel, by decide +kernel, by decide +kernel, by decide +kernel, by decide +kernel, by decide +kernel, by decide +kernel, by decide +kernel, by decide +kernel, by decide +kernel, by decide +kernel, by decide +kernel, by decide +kernel, by decide +kernel, by decide +kernel, by decide +kernel, by decide +kernel, by decide +kernel, by decide +kernel, by decide +kernel, by decide +kernel, by decide +kernel, by decide +kernel, by decide +kernel, by decide +kernel, by decide +kernel, by decide +kernel, by decide +kernel, by decide +kernel, by decide +kernel, by decide +kernel, by decide +kernel, by decide +kernel, by decide +kernel, by decide +kernel, by decide +kernel, by decide +kernel, by decide +kernel⟩
theorem D_LA_law_11 : (decode code 1016 = .ok (.invokevirtual 114, 3)) ∧ (decode code 1019 = .ok (.istore 6, 2)) ∧ (decode code 1021 = .ok (.aload_n 2, 1)) ∧ (decode code 1022 = .ok (.invokevirtual 65, 3)) ∧ (decode code 1025 = .ok (.iload 5, 2)) ∧ (decode code 1027 = .ok (.if_icmp .eq 5, 3)) ∧ (decode code 1030 = .ok (.iconst 0, 1)) ∧ (decode code 1031 = .ok (.ireturn, 1)) ∧ (decode code 1032 = .ok (.iload 5, 2)) ∧ (decode code 1034 = .ok (.ifCond .ne 15, 3)) ∧ (decode code 1037 = .ok (.aload_n 3, 1)) ∧ (decode code 1038 = .ok (.iconst 0, 1)) ∧ (decode code 1039 = .ok (.laload, 1)) ∧ (decode code 1040 = .ok (.iload 6, 2)) ∧ (decode code 1042 = .ok (.i2l, 1)) ∧ (decode code 1043 = .ok (.lcmp, 1)) ∧ (decode code 1044 = .ok (.ifCond .eq 5, 3)) ∧ (decode code 1047 = .ok (.iconst 0, 1)) ∧ (decode code 1048 = .ok (.ireturn, 1)) ∧ (decode code 1049 = .ok (.goto 3, 3)) ∧ (decode code 1052 = .ok (.iinc 4 9, 3)) ∧ (decode code 1055 = .ok (.goto (-1032), 3)) ∧ (decode code 1058 = .ok (.iconst 1, 1)) ∧ (decode code 1059 = .ok (.ireturn, 1)) :=
  ⟨by decide +kernel, by decide +kernel, by decide +kernel, by decide +kernel, by decide +kernel, by decide +kernel, by decide +kernel, by decide +kernel, by decide +kernel, by decide +kernel, by decide +kernel, by decide +kernel, by decide +kernel, by decide +kernel, by decide +kernel, by decide +kernel, by decide +kernel, by decide +kernel, by decide +kernel, by decide +kernel, by decide +kernel, by decide +kernel, by decide +kernel, by decide +kernel⟩
end
section
theorem zw_S (cc : ByteArray) (G : Nat → Option (Nat × Nat × FieldType × Bool)) (E : Nat → Nat → Option zEn) (X : Nat → Option (Nat × Nat)) (SL : Nat → Bool) (NW : Nat → Option (Nat × Nat × List Value)) (CS : Nat → Option Int32) (HD : Nat → Nat → Option Nat) (sc : Option (Nat × (Nat → Int32))) (cI cL : ClassId) (RC RS : Nat) (ctor : Bool) (KK : zO → zH → Bool → Nat → Nat → Prop) (n pc : Nat) (lc : zLc) (st : List Value) (h : zH) (wr : Bool) (k q : Nat) : zw cc G E X SL NW CS HD sc cI cL RC RS ctor KK (fun _ => none) (n + 1) pc lc st h wr k q = zwI cc G E X SL NW CS HD sc cI cL RC RS ctor KK (zw cc G E X SL NW CS HD sc cI cL RC RS ctor KK (fun _ => none) n) (decode cc pc) pc lc st h wr k q := propext Iff.rfl
theorem zw_J (cc : ByteArray) (G : Nat → Option (Nat × Nat × FieldType × Bool)) (E : Nat → Nat → Option zEn) (X : Nat → Option (Nat × Nat)) (SL : Nat → Bool) (NW : Nat → Option (Nat × Nat × List Value)) (CS : Nat → Option Int32) (HD : Nat → Nat → Option Nat) (sc : Option (Nat × (Nat → Int32))) (cI cL : ClassId) (RC RS : Nat) (ctor : Bool) (KK : zO → zH → Bool → Nat → Nat → Prop) (hd : Nat) (I : zLc → List Value → zH → Bool → Nat → Nat → Prop) (n pc : Nat) (lc : zLc) (st : List Value) (h : zH) (wr : Bool) (k q : Nat) : zw cc G E X SL NW CS HD sc cI cL RC RS ctor KK (fun p => if p = hd then some I else none) (n + 1) pc lc st h wr k q = if pc = hd then I lc st h wr k q else zwI cc G E X SL NW CS HD sc cI cL RC RS ctor KK (zw cc G E X SL NW CS HD sc cI cL RC RS ctor KK (fun p => if p = hd then some I else none) n) (decode cc pc) pc lc st h wr k q := by
  by_cases e : pc = hd
  · simp only [zw, if_pos e]
  · simp only [zw, if_neg e]
theorem zk_iconst (cc : ByteArray) (G : Nat → Option (Nat × Nat × FieldType × Bool)) (E : Nat → Nat → Option zEn) (X : Nat → Option (Nat × Nat)) (SL : Nat → Bool) (NW : Nat → Option (Nat × Nat × List Value)) (CS : Nat → Option Int32) (HD : Nat → Nat → Option Nat) (sc : Option (Nat × (Nat → Int32))) (cI cL : ClassId) (RC RS : Nat) (ctor : Bool) (KK : zO → zH → Bool → Nat → Nat → Prop) (rec : zRc) (pc : Nat) (lc : zLc) (st : List Value) (h : zH) (wr : Bool) (k q : Nat) (n : Int) : zwI cc G E X SL NW CS HD sc cI cL RC RS ctor KK rec (.ok (.iconst n, 1)) pc lc st h wr k q = (rec (pc + 1) lc (.int (Int32.ofInt n) :: st) h wr k q) := propext Iff.rfl
theorem zk_bipush (cc : ByteArray) (G : Nat → Option (Nat × Nat × FieldType × Bool)) (E : Nat → Nat → Option zEn) (X : Nat → Option (Nat × Nat)) (SL : Nat → Bool) (NW : Nat → Option (Nat × Nat × List Value)) (CS : Nat → Option Int32) (HD : Nat → Nat → Option Nat) (sc : Option (Nat × (Nat → Int32))) (cI cL : ClassId) (RC RS : Nat) (ctor : Bool) (KK : zO → zH → Bool → Nat → Nat → Prop) (rec : zRc) (pc : Nat) (lc : zLc) (st : List Value) (h : zH) (wr : Bool) (k q : Nat) (n : Int) : zwI cc G E X SL NW CS HD sc cI cL RC RS ctor KK rec (.ok (.bipush n, 2)) pc lc st h wr k q = (rec (pc + 2) lc (.int (Int8.ofInt n).toInt32 :: st) h wr k q) := propext Iff.rfl
theorem zk_sipush (cc : ByteArray) (G : Nat → Option (Nat × Nat × FieldType × Bool)) (E : Nat → Nat → Option zEn) (X : Nat → Option (Nat × Nat)) (SL : Nat → Bool) (NW : Nat → Option (Nat × Nat × List Value)) (CS : Nat → Option Int32) (HD : Nat → Nat → Option Nat) (sc : Option (Nat × (Nat → Int32))) (cI cL : ClassId) (RC RS : Nat) (ctor : Bool) (KK : zO → zH → Bool → Nat → Nat → Prop) (rec : zRc) (pc : Nat) (lc : zLc) (st : List Value) (h : zH) (wr : Bool) (k q : Nat) (n : Int) : zwI cc G E X SL NW CS HD sc cI cL RC RS ctor KK rec (.ok (.sipush n, 3)) pc lc st h wr k q = (rec (pc + 3) lc (.int (Int16.ofInt n).toInt32 :: st) h wr k q) := propext Iff.rfl
theorem zk_ldc (cc : ByteArray) (G : Nat → Option (Nat × Nat × FieldType × Bool)) (E : Nat → Nat → Option zEn) (X : Nat → Option (Nat × Nat)) (SL : Nat → Bool) (NW : Nat → Option (Nat × Nat × List Value)) (CS : Nat → Option Int32) (HD : Nat → Nat → Option Nat) (sc : Option (Nat × (Nat → Int32))) (cI cL : ClassId) (RC RS : Nat) (ctor : Bool) (KK : zO → zH → Bool → Nat → Nat → Prop) (rec : zRc) (pc : Nat) (lc : zLc) (st : List Value) (h : zH) (wr : Bool) (k q : Nat) (i : Nat) : zwI cc G E X SL NW CS HD sc cI cL RC RS ctor KK rec (.ok (.ldc i, 2)) pc lc st h wr k q = ((match CS i with
    | some v => rec (pc + 2) lc (.int v :: st) h wr k q
    | none => False)) := propext Iff.rfl
theorem zk_ldc_w (cc : ByteArray) (G : Nat → Option (Nat × Nat × FieldType × Bool)) (E : Nat → Nat → Option zEn) (X : Nat → Option (Nat × Nat)) (SL : Nat → Bool) (NW : Nat → Option (Nat × Nat × List Value)) (CS : Nat → Option Int32) (HD : Nat → Nat → Option Nat) (sc : Option (Nat × (Nat → Int32))) (cI cL : ClassId) (RC RS : Nat) (ctor : Bool) (KK : zO → zH → Bool → Nat → Nat → Prop) (rec : zRc) (pc : Nat) (lc : zLc) (st : List Value) (h : zH) (wr : Bool) (k q : Nat) (i : Nat) : zwI cc G E X SL NW CS HD sc cI cL RC RS ctor KK rec (.ok (.ldc_w i, 3)) pc lc st h wr k q = ((match CS i with
    | some v => rec (pc + 3) lc (.int v :: st) h wr k q
    | none => False)) := propext Iff.rfl
theorem zk_aconst_null (cc : ByteArray) (G : Nat → Option (Nat × Nat × FieldType × Bool)) (E : Nat → Nat → Option zEn) (X : Nat → Option (Nat × Nat)) (SL : Nat → Bool) (NW : Nat → Option (Nat × Nat × List Value)) (CS : Nat → Option Int32) (HD : Nat → Nat → Option Nat) (sc : Option (Nat × (Nat → Int32))) (cI cL : ClassId) (RC RS : Nat) (ctor : Bool) (KK : zO → zH → Bool → Nat → Nat → Prop) (rec : zRc) (pc : Nat) (lc : zLc) (st : List Value) (h : zH) (wr : Bool) (k q : Nat) : zwI cc G E X SL NW CS HD sc cI cL RC RS ctor KK rec (.ok (.aconst_null, 1)) pc lc st h wr k q = (rec (pc + 1) lc (.null :: st) h wr k q) := propext Iff.rfl
theorem zk_iload_n (cc : ByteArray) (G : Nat → Option (Nat × Nat × FieldType × Bool)) (E : Nat → Nat → Option zEn) (X : Nat → Option (Nat × Nat)) (SL : Nat → Bool) (NW : Nat → Option (Nat × Nat × List Value)) (CS : Nat → Option Int32) (HD : Nat → Nat → Option Nat) (sc : Option (Nat × (Nat → Int32))) (cI cL : ClassId) (RC RS : Nat) (ctor : Bool) (KK : zO → zH → Bool → Nat → Nat → Prop) (rec : zRc) (pc : Nat) (lc : zLc) (st : List Value) (h : zH) (wr : Bool) (k q : Nat) (i : Fin 4) : zwI cc G E X SL NW CS HD sc cI cL RC RS ctor KK rec (.ok (.iload_n i, 1)) pc lc st h wr k q = (zli lc i.val (fun x => rec (pc + 1) lc (.int x :: st) h wr k q)) := propext Iff.rfl
theorem zk_iload (cc : ByteArray) (G : Nat → Option (Nat × Nat × FieldType × Bool)) (E : Nat → Nat → Option zEn) (X : Nat → Option (Nat × Nat)) (SL : Nat → Bool) (NW : Nat → Option (Nat × Nat × List Value)) (CS : Nat → Option Int32) (HD : Nat → Nat → Option Nat) (sc : Option (Nat × (Nat → Int32))) (cI cL : ClassId) (RC RS : Nat) (ctor : Bool) (KK : zO → zH → Bool → Nat → Nat → Prop) (rec : zRc) (pc : Nat) (lc : zLc) (st : List Value) (h : zH) (wr : Bool) (k q : Nat) (i : Nat) : zwI cc G E X SL NW CS HD sc cI cL RC RS ctor KK rec (.ok (.iload i, 2)) pc lc st h wr k q = (zli lc i (fun x => rec (pc + 2) lc (.int x :: st) h wr k q)) := propext Iff.rfl
theorem zk_aload_n (cc : ByteArray) (G : Nat → Option (Nat × Nat × FieldType × Bool)) (E : Nat → Nat → Option zEn) (X : Nat → Option (Nat × Nat)) (SL : Nat → Bool) (NW : Nat → Option (Nat × Nat × List Value)) (CS : Nat → Option Int32) (HD : Nat → Nat → Option Nat) (sc : Option (Nat × (Nat → Int32))) (cI cL : ClassId) (RC RS : Nat) (ctor : Bool) (KK : zO → zH → Bool → Nat → Nat → Prop) (rec : zRc) (pc : Nat) (lc : zLc) (st : List Value) (h : zH) (wr : Bool) (k q : Nat) (i : Fin 4) : zwI cc G E X SL NW CS HD sc cI cL RC RS ctor KK rec (.ok (.aload_n i, 1)) pc lc st h wr k q = (zlr lc i.val (fun x => rec (pc + 1) lc (.ref x :: st) h wr k q)) := propext Iff.rfl
theorem zk_aload (cc : ByteArray) (G : Nat → Option (Nat × Nat × FieldType × Bool)) (E : Nat → Nat → Option zEn) (X : Nat → Option (Nat × Nat)) (SL : Nat → Bool) (NW : Nat → Option (Nat × Nat × List Value)) (CS : Nat → Option Int32) (HD : Nat → Nat → Option Nat) (sc : Option (Nat × (Nat → Int32))) (cI cL : ClassId) (RC RS : Nat) (ctor : Bool) (KK : zO → zH → Bool → Nat → Nat → Prop) (rec : zRc) (pc : Nat) (lc : zLc) (st : List Value) (h : zH) (wr : Bool) (k q : Nat) (i : Nat) : zwI cc G E X SL NW CS HD sc cI cL RC RS ctor KK rec (.ok (.aload i, 2)) pc lc st h wr k q = (zlr lc i (fun x => rec (pc + 2) lc (.ref x :: st) h wr k q)) := propext Iff.rfl
theorem zk_istore_n (cc : ByteArray) (G : Nat → Option (Nat × Nat × FieldType × Bool)) (E : Nat → Nat → Option zEn) (X : Nat → Option (Nat × Nat)) (SL : Nat → Bool) (NW : Nat → Option (Nat × Nat × List Value)) (CS : Nat → Option Int32) (HD : Nat → Nat → Option Nat) (sc : Option (Nat × (Nat → Int32))) (cI cL : ClassId) (RC RS : Nat) (ctor : Bool) (KK : zO → zH → Bool → Nat → Nat → Prop) (rec : zRc) (pc : Nat) (lc : zLc) (st : List Value) (h : zH) (wr : Bool) (k q : Nat) (i : Fin 4) : zwI cc G E X SL NW CS HD sc cI cL RC RS ctor KK rec (.ok (.istore_n i, 1)) pc lc st h wr k q = (i.val < lc.length ∧ zi1 st (fun x r => rec (pc + 1) (lc.set i.val (some (.int x))) r h wr k q)) := propext Iff.rfl
theorem zk_istore (cc : ByteArray) (G : Nat → Option (Nat × Nat × FieldType × Bool)) (E : Nat → Nat → Option zEn) (X : Nat → Option (Nat × Nat)) (SL : Nat → Bool) (NW : Nat → Option (Nat × Nat × List Value)) (CS : Nat → Option Int32) (HD : Nat → Nat → Option Nat) (sc : Option (Nat × (Nat → Int32))) (cI cL : ClassId) (RC RS : Nat) (ctor : Bool) (KK : zO → zH → Bool → Nat → Nat → Prop) (rec : zRc) (pc : Nat) (lc : zLc) (st : List Value) (h : zH) (wr : Bool) (k q : Nat) (i : Nat) : zwI cc G E X SL NW CS HD sc cI cL RC RS ctor KK rec (.ok (.istore i, 2)) pc lc st h wr k q = (i < lc.length ∧ zi1 st (fun x r => rec (pc + 2) (lc.set i (some (.int x))) r h wr k q)) := propext Iff.rfl
theorem zk_astore_n (cc : ByteArray) (G : Nat → Option (Nat × Nat × FieldType × Bool)) (E : Nat → Nat → Option zEn) (X : Nat → Option (Nat × Nat)) (SL : Nat → Bool) (NW : Nat → Option (Nat × Nat × List Value)) (CS : Nat → Option Int32) (HD : Nat → Nat → Option Nat) (sc : Option (Nat × (Nat → Int32))) (cI cL : ClassId) (RC RS : Nat) (ctor : Bool) (KK : zO → zH → Bool → Nat → Nat → Prop) (rec : zRc) (pc : Nat) (lc : zLc) (st : List Value) (h : zH) (wr : Bool) (k q : Nat) (i : Fin 4) : zwI cc G E X SL NW CS HD sc cI cL RC RS ctor KK rec (.ok (.astore_n i, 1)) pc lc st h wr k q = (i.val < lc.length ∧ zr1 st (fun x r => rec (pc + 1) (lc.set i.val (some (.ref x))) r h wr k q)) := propext Iff.rfl
theorem zk_astore (cc : ByteArray) (G : Nat → Option (Nat × Nat × FieldType × Bool)) (E : Nat → Nat → Option zEn) (X : Nat → Option (Nat × Nat)) (SL : Nat → Bool) (NW : Nat → Option (Nat × Nat × List Value)) (CS : Nat → Option Int32) (HD : Nat → Nat → Option Nat) (sc : Option (Nat × (Nat → Int32))) (cI cL : ClassId) (RC RS : Nat) (ctor : Bool) (KK : zO → zH → Bool → Nat → Nat → Prop) (rec : zRc) (pc : Nat) (lc : zLc) (st : List Value) (h : zH) (wr : Bool) (k q : Nat) (i : Nat) : zwI cc G E X SL NW CS HD sc cI cL RC RS ctor KK rec (.ok (.astore i, 2)) pc lc st h wr k q = (i < lc.length ∧ zr1 st (fun x r => rec (pc + 2) (lc.set i (some (.ref x))) r h wr k q)) := propext Iff.rfl
theorem zk_iinc (cc : ByteArray) (G : Nat → Option (Nat × Nat × FieldType × Bool)) (E : Nat → Nat → Option zEn) (X : Nat → Option (Nat × Nat)) (SL : Nat → Bool) (NW : Nat → Option (Nat × Nat × List Value)) (CS : Nat → Option Int32) (HD : Nat → Nat → Option Nat) (sc : Option (Nat × (Nat → Int32))) (cI cL : ClassId) (RC RS : Nat) (ctor : Bool) (KK : zO → zH → Bool → Nat → Nat → Prop) (rec : zRc) (pc : Nat) (lc : zLc) (st : List Value) (h : zH) (wr : Bool) (k q : Nat) (i : Nat) (n : Int) : zwI cc G E X SL NW CS HD sc cI cL RC RS ctor KK rec (.ok (.iinc i n, 3)) pc lc st h wr k q = (i < lc.length ∧ zli lc i (fun x => rec (pc + 3) (lc.set i (some (.int (x + Int32.ofInt n)))) st h wr k q)) := propext Iff.rfl
theorem zk_iadd (cc : ByteArray) (G : Nat → Option (Nat × Nat × FieldType × Bool)) (E : Nat → Nat → Option zEn) (X : Nat → Option (Nat × Nat)) (SL : Nat → Bool) (NW : Nat → Option (Nat × Nat × List Value)) (CS : Nat → Option Int32) (HD : Nat → Nat → Option Nat) (sc : Option (Nat × (Nat → Int32))) (cI cL : ClassId) (RC RS : Nat) (ctor : Bool) (KK : zO → zH → Bool → Nat → Nat → Prop) (rec : zRc) (pc : Nat) (lc : zLc) (st : List Value) (h : zH) (wr : Bool) (k q : Nat) : zwI cc G E X SL NW CS HD sc cI cL RC RS ctor KK rec (.ok (.iadd, 1)) pc lc st h wr k q = (zi2 st (fun x y r => rec (pc + 1) lc (.int (x + y) :: r) h wr k q)) := propext Iff.rfl
theorem zk_isub (cc : ByteArray) (G : Nat → Option (Nat × Nat × FieldType × Bool)) (E : Nat → Nat → Option zEn) (X : Nat → Option (Nat × Nat)) (SL : Nat → Bool) (NW : Nat → Option (Nat × Nat × List Value)) (CS : Nat → Option Int32) (HD : Nat → Nat → Option Nat) (sc : Option (Nat × (Nat → Int32))) (cI cL : ClassId) (RC RS : Nat) (ctor : Bool) (KK : zO → zH → Bool → Nat → Nat → Prop) (rec : zRc) (pc : Nat) (lc : zLc) (st : List Value) (h : zH) (wr : Bool) (k q : Nat) : zwI cc G E X SL NW CS HD sc cI cL RC RS ctor KK rec (.ok (.isub, 1)) pc lc st h wr k q = (zi2 st (fun x y r => rec (pc + 1) lc (.int (x - y) :: r) h wr k q)) := propext Iff.rfl
theorem zk_imul (cc : ByteArray) (G : Nat → Option (Nat × Nat × FieldType × Bool)) (E : Nat → Nat → Option zEn) (X : Nat → Option (Nat × Nat)) (SL : Nat → Bool) (NW : Nat → Option (Nat × Nat × List Value)) (CS : Nat → Option Int32) (HD : Nat → Nat → Option Nat) (sc : Option (Nat × (Nat → Int32))) (cI cL : ClassId) (RC RS : Nat) (ctor : Bool) (KK : zO → zH → Bool → Nat → Nat → Prop) (rec : zRc) (pc : Nat) (lc : zLc) (st : List Value) (h : zH) (wr : Bool) (k q : Nat) : zwI cc G E X SL NW CS HD sc cI cL RC RS ctor KK rec (.ok (.imul, 1)) pc lc st h wr k q = (zi2 st (fun x y r => rec (pc + 1) lc (.int (x * y) :: r) h wr k q)) := propext Iff.rfl
theorem zk_idiv (cc : ByteArray) (G : Nat → Option (Nat × Nat × FieldType × Bool)) (E : Nat → Nat → Option zEn) (X : Nat → Option (Nat × Nat)) (SL : Nat → Bool) (NW : Nat → Option (Nat × Nat × List Value)) (CS : Nat → Option Int32) (HD : Nat → Nat → Option Nat) (sc : Option (Nat × (Nat → Int32))) (cI cL : ClassId) (RC RS : Nat) (ctor : Bool) (KK : zO → zH → Bool → Nat → Nat → Prop) (rec : zRc) (pc : Nat) (lc : zLc) (st : List Value) (h : zH) (wr : Bool) (k q : Nat) : zwI cc G E X SL NW CS HD sc cI cL RC RS ctor KK rec (.ok (.idiv, 1)) pc lc st h wr k q = (zi2 st (fun x y r => ¬ y = 0 ∧ rec (pc + 1) lc (.int (x / y) :: r) h wr k q)) := propext Iff.rfl
theorem zk_iand (cc : ByteArray) (G : Nat → Option (Nat × Nat × FieldType × Bool)) (E : Nat → Nat → Option zEn) (X : Nat → Option (Nat × Nat)) (SL : Nat → Bool) (NW : Nat → Option (Nat × Nat × List Value)) (CS : Nat → Option Int32) (HD : Nat → Nat → Option Nat) (sc : Option (Nat × (Nat → Int32))) (cI cL : ClassId) (RC RS : Nat) (ctor : Bool) (KK : zO → zH → Bool → Nat → Nat → Prop) (rec : zRc) (pc : Nat) (lc : zLc) (st : List Value) (h : zH) (wr : Bool) (k q : Nat) : zwI cc G E X SL NW CS HD sc cI cL RC RS ctor KK rec (.ok (.iand, 1)) pc lc st h wr k q = (zi2 st (fun x y r => rec (pc + 1) lc (.int (x &&& y) :: r) h wr k q)) := propext Iff.rfl
theorem zk_ior (cc : ByteArray) (G : Nat → Option (Nat × Nat × FieldType × Bool)) (E : Nat → Nat → Option zEn) (X : Nat → Option (Nat × Nat)) (SL : Nat → Bool) (NW : Nat → Option (Nat × Nat × List Value)) (CS : Nat → Option Int32) (HD : Nat → Nat → Option Nat) (sc : Option (Nat × (Nat → Int32))) (cI cL : ClassId) (RC RS : Nat) (ctor : Bool) (KK : zO → zH → Bool → Nat → Nat → Prop) (rec : zRc) (pc : Nat) (lc : zLc) (st : List Value) (h : zH) (wr : Bool) (k q : Nat) : zwI cc G E X SL NW CS HD sc cI cL RC RS ctor KK rec (.ok (.ior, 1)) pc lc st h wr k q = (zi2 st (fun x y r => rec (pc + 1) lc (.int (x ||| y) :: r) h wr k q)) := propext Iff.rfl
theorem zk_ixor (cc : ByteArray) (G : Nat → Option (Nat × Nat × FieldType × Bool)) (E : Nat → Nat → Option zEn) (X : Nat → Option (Nat × Nat)) (SL : Nat → Bool) (NW : Nat → Option (Nat × Nat × List Value)) (CS : Nat → Option Int32) (HD : Nat → Nat → Option Nat) (sc : Option (Nat × (Nat → Int32))) (cI cL : ClassId) (RC RS : Nat) (ctor : Bool) (KK : zO → zH → Bool → Nat → Nat → Prop) (rec : zRc) (pc : Nat) (lc : zLc) (st : List Value) (h : zH) (wr : Bool) (k q : Nat) : zwI cc G E X SL NW CS HD sc cI cL RC RS ctor KK rec (.ok (.ixor, 1)) pc lc st h wr k q = (zi2 st (fun x y r => rec (pc + 1) lc (.int (x ^^^ y) :: r) h wr k q)) := propext Iff.rfl
theorem zk_ishl (cc : ByteArray) (G : Nat → Option (Nat × Nat × FieldType × Bool)) (E : Nat → Nat → Option zEn) (X : Nat → Option (Nat × Nat)) (SL : Nat → Bool) (NW : Nat → Option (Nat × Nat × List Value)) (CS : Nat → Option Int32) (HD : Nat → Nat → Option Nat) (sc : Option (Nat × (Nat → Int32))) (cI cL : ClassId) (RC RS : Nat) (ctor : Bool) (KK : zO → zH → Bool → Nat → Nat → Prop) (rec : zRc) (pc : Nat) (lc : zLc) (st : List Value) (h : zH) (wr : Bool) (k q : Nat) : zwI cc G E X SL NW CS HD sc cI cL RC RS ctor KK rec (.ok (.ishl, 1)) pc lc st h wr k q = (zi2 st (fun x y r => rec (pc + 1) lc (.int (x <<< (y &&& 31)) :: r) h wr k q)) := propext Iff.rfl
theorem zk_ishr (cc : ByteArray) (G : Nat → Option (Nat × Nat × FieldType × Bool)) (E : Nat → Nat → Option zEn) (X : Nat → Option (Nat × Nat)) (SL : Nat → Bool) (NW : Nat → Option (Nat × Nat × List Value)) (CS : Nat → Option Int32) (HD : Nat → Nat → Option Nat) (sc : Option (Nat × (Nat → Int32))) (cI cL : ClassId) (RC RS : Nat) (ctor : Bool) (KK : zO → zH → Bool → Nat → Nat → Prop) (rec : zRc) (pc : Nat) (lc : zLc) (st : List Value) (h : zH) (wr : Bool) (k q : Nat) : zwI cc G E X SL NW CS HD sc cI cL RC RS ctor KK rec (.ok (.ishr, 1)) pc lc st h wr k q = (zi2 st (fun x y r => rec (pc + 1) lc (.int (x >>> (y &&& 31)) :: r) h wr k q)) := propext Iff.rfl
theorem zk_iushr (cc : ByteArray) (G : Nat → Option (Nat × Nat × FieldType × Bool)) (E : Nat → Nat → Option zEn) (X : Nat → Option (Nat × Nat)) (SL : Nat → Bool) (NW : Nat → Option (Nat × Nat × List Value)) (CS : Nat → Option Int32) (HD : Nat → Nat → Option Nat) (sc : Option (Nat × (Nat → Int32))) (cI cL : ClassId) (RC RS : Nat) (ctor : Bool) (KK : zO → zH → Bool → Nat → Nat → Prop) (rec : zRc) (pc : Nat) (lc : zLc) (st : List Value) (h : zH) (wr : Bool) (k q : Nat) : zwI cc G E X SL NW CS HD sc cI cL RC RS ctor KK rec (.ok (.iushr, 1)) pc lc st h wr k q = (zi2 st (fun x y r => rec (pc + 1) lc (.int (x.toUInt32 >>> (y.toUInt32 &&& Int32.toUInt32 31)).toInt32 :: r) h wr k q)) := propext Iff.rfl
theorem zk_i2l (cc : ByteArray) (G : Nat → Option (Nat × Nat × FieldType × Bool)) (E : Nat → Nat → Option zEn) (X : Nat → Option (Nat × Nat)) (SL : Nat → Bool) (NW : Nat → Option (Nat × Nat × List Value)) (CS : Nat → Option Int32) (HD : Nat → Nat → Option Nat) (sc : Option (Nat × (Nat → Int32))) (cI cL : ClassId) (RC RS : Nat) (ctor : Bool) (KK : zO → zH → Bool → Nat → Nat → Prop) (rec : zRc) (pc : Nat) (lc : zLc) (st : List Value) (h : zH) (wr : Bool) (k q : Nat) : zwI cc G E X SL NW CS HD sc cI cL RC RS ctor KK rec (.ok (.i2l, 1)) pc lc st h wr k q = (zi1 st (fun x r => rec (pc + 1) lc (.long x.toInt64 :: r) h wr k q)) := propext Iff.rfl
theorem zk_lcmp (cc : ByteArray) (G : Nat → Option (Nat × Nat × FieldType × Bool)) (E : Nat → Nat → Option zEn) (X : Nat → Option (Nat × Nat)) (SL : Nat → Bool) (NW : Nat → Option (Nat × Nat × List Value)) (CS : Nat → Option Int32) (HD : Nat → Nat → Option Nat) (sc : Option (Nat × (Nat → Int32))) (cI cL : ClassId) (RC RS : Nat) (ctor : Bool) (KK : zO → zH → Bool → Nat → Nat → Prop) (rec : zRc) (pc : Nat) (lc : zLc) (st : List Value) (h : zH) (wr : Bool) (k q : Nat) : zwI cc G E X SL NW CS HD sc cI cL RC RS ctor KK rec (.ok (.lcmp, 1)) pc lc st h wr k q = (zl2 st (fun x y r => rec (pc + 1) lc (.int (lg_cmp x y) :: r) h wr k q)) := propext Iff.rfl
theorem zk_dup (cc : ByteArray) (G : Nat → Option (Nat × Nat × FieldType × Bool)) (E : Nat → Nat → Option zEn) (X : Nat → Option (Nat × Nat)) (SL : Nat → Bool) (NW : Nat → Option (Nat × Nat × List Value)) (CS : Nat → Option Int32) (HD : Nat → Nat → Option Nat) (sc : Option (Nat × (Nat → Int32))) (cI cL : ClassId) (RC RS : Nat) (ctor : Bool) (KK : zO → zH → Bool → Nat → Nat → Prop) (rec : zRc) (pc : Nat) (lc : zLc) (st : List Value) (h : zH) (wr : Bool) (k q : Nat) : zwI cc G E X SL NW CS HD sc cI cL RC RS ctor KK rec (.ok (.dup, 1)) pc lc st h wr k q = (zv1 st (fun v r => rec (pc + 1) lc (v :: v :: r) h wr k q)) := propext Iff.rfl
theorem zk_pop (cc : ByteArray) (G : Nat → Option (Nat × Nat × FieldType × Bool)) (E : Nat → Nat → Option zEn) (X : Nat → Option (Nat × Nat)) (SL : Nat → Bool) (NW : Nat → Option (Nat × Nat × List Value)) (CS : Nat → Option Int32) (HD : Nat → Nat → Option Nat) (sc : Option (Nat × (Nat → Int32))) (cI cL : ClassId) (RC RS : Nat) (ctor : Bool) (KK : zO → zH → Bool → Nat → Nat → Prop) (rec : zRc) (pc : Nat) (lc : zLc) (st : List Value) (h : zH) (wr : Bool) (k q : Nat) : zwI cc G E X SL NW CS HD sc cI cL RC RS ctor KK rec (.ok (.pop, 1)) pc lc st h wr k q = (zv1 st (fun _ r => rec (pc + 1) lc r h wr k q)) := propext Iff.rfl
theorem zk_dup_x1 (cc : ByteArray) (G : Nat → Option (Nat × Nat × FieldType × Bool)) (E : Nat → Nat → Option zEn) (X : Nat → Option (Nat × Nat)) (SL : Nat → Bool) (NW : Nat → Option (Nat × Nat × List Value)) (CS : Nat → Option Int32) (HD : Nat → Nat → Option Nat) (sc : Option (Nat × (Nat → Int32))) (cI cL : ClassId) (RC RS : Nat) (ctor : Bool) (KK : zO → zH → Bool → Nat → Nat → Prop) (rec : zRc) (pc : Nat) (lc : zLc) (st : List Value) (h : zH) (wr : Bool) (k q : Nat) : zwI cc G E X SL NW CS HD sc cI cL RC RS ctor KK rec (.ok (.dup_x1, 1)) pc lc st h wr k q = (zv2 st (fun v w r => rec (pc + 1) lc (v :: w :: v :: r) h wr k q)) := propext Iff.rfl
theorem zk_dup2 (cc : ByteArray) (G : Nat → Option (Nat × Nat × FieldType × Bool)) (E : Nat → Nat → Option zEn) (X : Nat → Option (Nat × Nat)) (SL : Nat → Bool) (NW : Nat → Option (Nat × Nat × List Value)) (CS : Nat → Option Int32) (HD : Nat → Nat → Option Nat) (sc : Option (Nat × (Nat → Int32))) (cI cL : ClassId) (RC RS : Nat) (ctor : Bool) (KK : zO → zH → Bool → Nat → Nat → Prop) (rec : zRc) (pc : Nat) (lc : zLc) (st : List Value) (h : zH) (wr : Bool) (k q : Nat) : zwI cc G E X SL NW CS HD sc cI cL RC RS ctor KK rec (.ok (.dup2, 1)) pc lc st h wr k q = (zv2 st (fun v w r => rec (pc + 1) lc (v :: w :: v :: w :: r) h wr k q)) := propext Iff.rfl
theorem zk_dup_x2 (cc : ByteArray) (G : Nat → Option (Nat × Nat × FieldType × Bool)) (E : Nat → Nat → Option zEn) (X : Nat → Option (Nat × Nat)) (SL : Nat → Bool) (NW : Nat → Option (Nat × Nat × List Value)) (CS : Nat → Option Int32) (HD : Nat → Nat → Option Nat) (sc : Option (Nat × (Nat → Int32))) (cI cL : ClassId) (RC RS : Nat) (ctor : Bool) (KK : zO → zH → Bool → Nat → Nat → Prop) (rec : zRc) (pc : Nat) (lc : zLc) (st : List Value) (h : zH) (wr : Bool) (k q : Nat) : zwI cc G E X SL NW CS HD sc cI cL RC RS ctor KK rec (.ok (.dup_x2, 1)) pc lc st h wr k q = (zv3 st (fun v w u r => rec (pc + 1) lc (v :: w :: u :: v :: r) h wr k q)) := propext Iff.rfl
theorem zk_goto (cc : ByteArray) (G : Nat → Option (Nat × Nat × FieldType × Bool)) (E : Nat → Nat → Option zEn) (X : Nat → Option (Nat × Nat)) (SL : Nat → Bool) (NW : Nat → Option (Nat × Nat × List Value)) (CS : Nat → Option Int32) (HD : Nat → Nat → Option Nat) (sc : Option (Nat × (Nat → Int32))) (cI cL : ClassId) (RC RS : Nat) (ctor : Bool) (KK : zO → zH → Bool → Nat → Nat → Prop) (rec : zRc) (pc : Nat) (lc : zLc) (st : List Value) (h : zH) (wr : Bool) (k q : Nat) (o : Int) : zwI cc G E X SL NW CS HD sc cI cL RC RS ctor KK rec (.ok (.goto o, 3)) pc lc st h wr k q = (zgo (fun t => rec t lc st h wr k q) pc o) := propext Iff.rfl
theorem zk_ifCond (cc : ByteArray) (G : Nat → Option (Nat × Nat × FieldType × Bool)) (E : Nat → Nat → Option zEn) (X : Nat → Option (Nat × Nat)) (SL : Nat → Bool) (NW : Nat → Option (Nat × Nat × List Value)) (CS : Nat → Option Int32) (HD : Nat → Nat → Option Nat) (sc : Option (Nat × (Nat → Int32))) (cI cL : ClassId) (RC RS : Nat) (ctor : Bool) (KK : zO → zH → Bool → Nat → Nat → Prop) (rec : zRc) (pc : Nat) (lc : zLc) (st : List Value) (h : zH) (wr : Bool) (k q : Nat) (c : ClassFile.Cond) (o : Int) : zwI cc G E X SL NW CS HD sc cI cL RC RS ctor KK rec (.ok (.ifCond c o, 3)) pc lc st h wr k q = (0 ≤ (pc : Int) + o ∧ zi1 st (fun x r => (zcc c x 0 → rec ((pc : Int) + o).toNat lc r h wr k q) ∧ (¬ zcc c x 0 → rec (pc + 3) lc r h wr k q))) := propext Iff.rfl
theorem zk_if_icmp (cc : ByteArray) (G : Nat → Option (Nat × Nat × FieldType × Bool)) (E : Nat → Nat → Option zEn) (X : Nat → Option (Nat × Nat)) (SL : Nat → Bool) (NW : Nat → Option (Nat × Nat × List Value)) (CS : Nat → Option Int32) (HD : Nat → Nat → Option Nat) (sc : Option (Nat × (Nat → Int32))) (cI cL : ClassId) (RC RS : Nat) (ctor : Bool) (KK : zO → zH → Bool → Nat → Nat → Prop) (rec : zRc) (pc : Nat) (lc : zLc) (st : List Value) (h : zH) (wr : Bool) (k q : Nat) (c : ClassFile.Cond) (o : Int) : zwI cc G E X SL NW CS HD sc cI cL RC RS ctor KK rec (.ok (.if_icmp c o, 3)) pc lc st h wr k q = (0 ≤ (pc : Int) + o ∧ zi2 st (fun x y r => (zcc c x y → rec ((pc : Int) + o).toNat lc r h wr k q) ∧ (¬ zcc c x y → rec (pc + 3) lc r h wr k q))) := propext Iff.rfl
theorem zk_tableswitch (cc : ByteArray) (G : Nat → Option (Nat × Nat × FieldType × Bool)) (E : Nat → Nat → Option zEn) (X : Nat → Option (Nat × Nat)) (SL : Nat → Bool) (NW : Nat → Option (Nat × Nat × List Value)) (CS : Nat → Option Int32) (HD : Nat → Nat → Option Nat) (sc : Option (Nat × (Nat → Int32))) (cI cL : ClassId) (RC RS : Nat) (ctor : Bool) (KK : zO → zH → Bool → Nat → Nat → Prop) (rec : zRc) (pc : Nat) (lc : zLc) (st : List Value) (h : zH) (wr : Bool) (k q : Nat) (d : Int) (lo : Int) (hi : Int) (offs : Array Int) (len : Nat) : zwI cc G E X SL NW CS HD sc cI cL RC RS ctor KK rec (.ok (.tableswitch d lo hi offs, len)) pc lc st h wr k q = (hi + 1 = lo + offs.toList.length ∧ zi1 st (fun x r => zswT x (fun t => rec t lc r h wr k q) pc d lo offs.toList)) := propext Iff.rfl
theorem zk_getfield (cc : ByteArray) (G : Nat → Option (Nat × Nat × FieldType × Bool)) (E : Nat → Nat → Option zEn) (X : Nat → Option (Nat × Nat)) (SL : Nat → Bool) (NW : Nat → Option (Nat × Nat × List Value)) (CS : Nat → Option Int32) (HD : Nat → Nat → Option Nat) (sc : Option (Nat × (Nat → Int32))) (cI cL : ClassId) (RC RS : Nat) (ctor : Bool) (KK : zO → zH → Bool → Nat → Nat → Prop) (rec : zRc) (pc : Nat) (lc : zLc) (st : List Value) (h : zH) (wr : Bool) (k q : Nat) (i : Nat) : zwI cc G E X SL NW CS HD sc cI cL RC RS ctor KK rec (.ok (.getfield i, 3)) pc lc st h wr k q = (zgetf rec (G i) pc lc st h wr k q) := propext Iff.rfl
theorem zk_putfield (cc : ByteArray) (G : Nat → Option (Nat × Nat × FieldType × Bool)) (E : Nat → Nat → Option zEn) (X : Nat → Option (Nat × Nat)) (SL : Nat → Bool) (NW : Nat → Option (Nat × Nat × List Value)) (CS : Nat → Option Int32) (HD : Nat → Nat → Option Nat) (sc : Option (Nat × (Nat → Int32))) (cI cL : ClassId) (RC RS : Nat) (ctor : Bool) (KK : zO → zH → Bool → Nat → Nat → Prop) (rec : zRc) (pc : Nat) (lc : zLc) (st : List Value) (h : zH) (wr : Bool) (k q : Nat) (i : Nat) : zwI cc G E X SL NW CS HD sc cI cL RC RS ctor KK rec (.ok (.putfield i, 3)) pc lc st h wr k q = (zput ctor rec (G i) pc lc st h k q) := propext Iff.rfl
theorem zk_iaload (cc : ByteArray) (G : Nat → Option (Nat × Nat × FieldType × Bool)) (E : Nat → Nat → Option zEn) (X : Nat → Option (Nat × Nat)) (SL : Nat → Bool) (NW : Nat → Option (Nat × Nat × List Value)) (CS : Nat → Option Int32) (HD : Nat → Nat → Option Nat) (sc : Option (Nat × (Nat → Int32))) (cI cL : ClassId) (RC RS : Nat) (ctor : Bool) (KK : zO → zH → Bool → Nat → Nat → Prop) (rec : zRc) (pc : Nat) (lc : zLc) (st : List Value) (h : zH) (wr : Bool) (k q : Nat) : zwI cc G E X SL NW CS HD sc cI cL RC RS ctor KK rec (.ok (.iaload, 1)) pc lc st h wr k q = (zial sc cI rec pc lc st h wr k q) := propext Iff.rfl
theorem zk_iastore (cc : ByteArray) (G : Nat → Option (Nat × Nat × FieldType × Bool)) (E : Nat → Nat → Option zEn) (X : Nat → Option (Nat × Nat)) (SL : Nat → Bool) (NW : Nat → Option (Nat × Nat × List Value)) (CS : Nat → Option Int32) (HD : Nat → Nat → Option Nat) (sc : Option (Nat × (Nat → Int32))) (cI cL : ClassId) (RC RS : Nat) (ctor : Bool) (KK : zO → zH → Bool → Nat → Nat → Prop) (rec : zRc) (pc : Nat) (lc : zLc) (st : List Value) (h : zH) (wr : Bool) (k q : Nat) : zwI cc G E X SL NW CS HD sc cI cL RC RS ctor KK rec (.ok (.iastore, 1)) pc lc st h wr k q = (zrii st (fun i j x r => zai h i (fun cA n g => cA = cI ∧ vp_in j n ∧ rec (pc + 1) lc r (h.set i (.inl (cI, n, .inl (upd g j.toNatClampNeg x)))) true k q))) := propext Iff.rfl
theorem zk_laload (cc : ByteArray) (G : Nat → Option (Nat × Nat × FieldType × Bool)) (E : Nat → Nat → Option zEn) (X : Nat → Option (Nat × Nat)) (SL : Nat → Bool) (NW : Nat → Option (Nat × Nat × List Value)) (CS : Nat → Option Int32) (HD : Nat → Nat → Option Nat) (sc : Option (Nat × (Nat → Int32))) (cI cL : ClassId) (RC RS : Nat) (ctor : Bool) (KK : zO → zH → Bool → Nat → Nat → Prop) (rec : zRc) (pc : Nat) (lc : zLc) (st : List Value) (h : zH) (wr : Bool) (k q : Nat) : zwI cc G E X SL NW CS HD sc cI cL RC RS ctor KK rec (.ok (.laload, 1)) pc lc st h wr k q = (zri st (fun i j r => zal h i (fun cA n g => cA = cL ∧ vp_in j n ∧ rec (pc + 1) lc (.long (g j.toNatClampNeg) :: r) h wr k q))) := propext Iff.rfl
theorem zk_lastore (cc : ByteArray) (G : Nat → Option (Nat × Nat × FieldType × Bool)) (E : Nat → Nat → Option zEn) (X : Nat → Option (Nat × Nat)) (SL : Nat → Bool) (NW : Nat → Option (Nat × Nat × List Value)) (CS : Nat → Option Int32) (HD : Nat → Nat → Option Nat) (sc : Option (Nat × (Nat → Int32))) (cI cL : ClassId) (RC RS : Nat) (ctor : Bool) (KK : zO → zH → Bool → Nat → Nat → Prop) (rec : zRc) (pc : Nat) (lc : zLc) (st : List Value) (h : zH) (wr : Bool) (k q : Nat) : zwI cc G E X SL NW CS HD sc cI cL RC RS ctor KK rec (.ok (.lastore, 1)) pc lc st h wr k q = (zril st (fun i j x r => zal h i (fun cA n g => cA = cL ∧ vp_in j n ∧ rec (pc + 1) lc r (h.set i (.inl (cL, n, .inr (.inl (vp_updL g j.toNatClampNeg x))))) true k q))) := propext Iff.rfl
theorem zk_arraylength (cc : ByteArray) (G : Nat → Option (Nat × Nat × FieldType × Bool)) (E : Nat → Nat → Option zEn) (X : Nat → Option (Nat × Nat)) (SL : Nat → Bool) (NW : Nat → Option (Nat × Nat × List Value)) (CS : Nat → Option Int32) (HD : Nat → Nat → Option Nat) (sc : Option (Nat × (Nat → Int32))) (cI cL : ClassId) (RC RS : Nat) (ctor : Bool) (KK : zO → zH → Bool → Nat → Nat → Prop) (rec : zRc) (pc : Nat) (lc : zLc) (st : List Value) (h : zH) (wr : Bool) (k q : Nat) : zwI cc G E X SL NW CS HD sc cI cL RC RS ctor KK rec (.ok (.arraylength, 1)) pc lc st h wr k q = (zlen sc cI rec pc lc st h wr k q) := propext Iff.rfl
theorem zk_invokestatic (cc : ByteArray) (G : Nat → Option (Nat × Nat × FieldType × Bool)) (E : Nat → Nat → Option zEn) (X : Nat → Option (Nat × Nat)) (SL : Nat → Bool) (NW : Nat → Option (Nat × Nat × List Value)) (CS : Nat → Option Int32) (HD : Nat → Nat → Option Nat) (sc : Option (Nat × (Nat → Int32))) (cI cL : ClassId) (RC RS : Nat) (ctor : Bool) (KK : zO → zH → Bool → Nat → Nat → Prop) (rec : zRc) (pc : Nat) (lc : zLc) (st : List Value) (h : zH) (wr : Bool) (k q : Nat) (i : Nat) : zwI cc G E X SL NW CS HD sc cI cL RC RS ctor KK rec (.ok (.invokestatic i, 3)) pc lc st h wr k q = (zcal cc HD RC RS rec (E 0 i) pc lc st h wr k q) := propext Iff.rfl
theorem zk_invokevirtual (cc : ByteArray) (G : Nat → Option (Nat × Nat × FieldType × Bool)) (E : Nat → Nat → Option zEn) (X : Nat → Option (Nat × Nat)) (SL : Nat → Bool) (NW : Nat → Option (Nat × Nat × List Value)) (CS : Nat → Option Int32) (HD : Nat → Nat → Option Nat) (sc : Option (Nat × (Nat → Int32))) (cI cL : ClassId) (RC RS : Nat) (ctor : Bool) (KK : zO → zH → Bool → Nat → Nat → Prop) (rec : zRc) (pc : Nat) (lc : zLc) (st : List Value) (h : zH) (wr : Bool) (k q : Nat) (i : Nat) : zwI cc G E X SL NW CS HD sc cI cL RC RS ctor KK rec (.ok (.invokevirtual i, 3)) pc lc st h wr k q = (zcal cc HD RC RS rec (E 1 i) pc lc st h wr k q) := propext Iff.rfl
theorem zk_invokespecial (cc : ByteArray) (G : Nat → Option (Nat × Nat × FieldType × Bool)) (E : Nat → Nat → Option zEn) (X : Nat → Option (Nat × Nat)) (SL : Nat → Bool) (NW : Nat → Option (Nat × Nat × List Value)) (CS : Nat → Option Int32) (HD : Nat → Nat → Option Nat) (sc : Option (Nat × (Nat → Int32))) (cI cL : ClassId) (RC RS : Nat) (ctor : Bool) (KK : zO → zH → Bool → Nat → Nat → Prop) (rec : zRc) (pc : Nat) (lc : zLc) (st : List Value) (h : zH) (wr : Bool) (k q : Nat) (i : Nat) : zwI cc G E X SL NW CS HD sc cI cL RC RS ctor KK rec (.ok (.invokespecial i, 3)) pc lc st h wr k q = (zcal cc HD RC RS rec (E 2 i) pc lc st h wr k q) := propext Iff.rfl
theorem zk_new (cc : ByteArray) (G : Nat → Option (Nat × Nat × FieldType × Bool)) (E : Nat → Nat → Option zEn) (X : Nat → Option (Nat × Nat)) (SL : Nat → Bool) (NW : Nat → Option (Nat × Nat × List Value)) (CS : Nat → Option Int32) (HD : Nat → Nat → Option Nat) (sc : Option (Nat × (Nat → Int32))) (cI cL : ClassId) (RC RS : Nat) (ctor : Bool) (KK : zO → zH → Bool → Nat → Nat → Prop) (rec : zRc) (pc : Nat) (lc : zLc) (st : List Value) (h : zH) (wr : Bool) (k q : Nat) (i : Nat) : zwI cc G E X SL NW CS HD sc cI cL RC RS ctor KK rec (.ok (.new i, 3)) pc lc st h wr k q = ((match X i with
    | some x2 => zexc cc SL RC RS KK x2 pc st h wr k q
    | none => znew RC RS rec (NW i) pc lc st h k q)) := propext Iff.rfl
theorem zk_newarray (cc : ByteArray) (G : Nat → Option (Nat × Nat × FieldType × Bool)) (E : Nat → Nat → Option zEn) (X : Nat → Option (Nat × Nat)) (SL : Nat → Bool) (NW : Nat → Option (Nat × Nat × List Value)) (CS : Nat → Option Int32) (HD : Nat → Nat → Option Nat) (sc : Option (Nat × (Nat → Int32))) (cI cL : ClassId) (RC RS : Nat) (ctor : Bool) (KK : zO → zH → Bool → Nat → Nat → Prop) (rec : zRc) (pc : Nat) (lc : zLc) (st : List Value) (h : zH) (wr : Bool) (k q : Nat) (t : ArrayType) : zwI cc G E X SL NW CS HD sc cI cL RC RS ctor KK rec (.ok (.newarray t, 2)) pc lc st h wr k q = (t = .int ∧ zi1 st (fun x r => ¬ x < 0 ∧ x.toNatClampNeg * 4 ≤ 536870912 ∧ k + 1 ≤ RC ∧ q + x.toNatClampNeg ≤ RS ∧ (∀ o ∈ lc, zb_o h.length o) ∧ (∀ v ∈ r, zb_v h.length v) ∧ (∀ y ∈ h, zb_e h.length y) ∧ h.length < 1000 ∧ rec (pc + 2) lc (.ref h.length :: r) (h ++ [.inl (cI, x.toNatClampNeg, .inl (fun _ => 0))]) true (k + 1) (q + x.toNatClampNeg))) := propext Iff.rfl
theorem zk_ireturn (cc : ByteArray) (G : Nat → Option (Nat × Nat × FieldType × Bool)) (E : Nat → Nat → Option zEn) (X : Nat → Option (Nat × Nat)) (SL : Nat → Bool) (NW : Nat → Option (Nat × Nat × List Value)) (CS : Nat → Option Int32) (HD : Nat → Nat → Option Nat) (sc : Option (Nat × (Nat → Int32))) (cI cL : ClassId) (RC RS : Nat) (ctor : Bool) (KK : zO → zH → Bool → Nat → Nat → Prop) (rec : zRc) (pc : Nat) (lc : zLc) (st : List Value) (h : zH) (wr : Bool) (k q : Nat) : zwI cc G E X SL NW CS HD sc cI cL RC RS ctor KK rec (.ok (.ireturn, 1)) pc lc st h wr k q = (zi1 st (fun x r => r = [] ∧ KK (.inl (some (.int x))) h wr k q)) := propext Iff.rfl
theorem zk_areturn (cc : ByteArray) (G : Nat → Option (Nat × Nat × FieldType × Bool)) (E : Nat → Nat → Option zEn) (X : Nat → Option (Nat × Nat)) (SL : Nat → Bool) (NW : Nat → Option (Nat × Nat × List Value)) (CS : Nat → Option Int32) (HD : Nat → Nat → Option Nat) (sc : Option (Nat × (Nat → Int32))) (cI cL : ClassId) (RC RS : Nat) (ctor : Bool) (KK : zO → zH → Bool → Nat → Nat → Prop) (rec : zRc) (pc : Nat) (lc : zLc) (st : List Value) (h : zH) (wr : Bool) (k q : Nat) : zwI cc G E X SL NW CS HD sc cI cL RC RS ctor KK rec (.ok (.areturn, 1)) pc lc st h wr k q = (zr1 st (fun x r => r = [] ∧ KK (.inl (some (.ref x))) h wr k q)) := propext Iff.rfl
theorem zk_return_ (cc : ByteArray) (G : Nat → Option (Nat × Nat × FieldType × Bool)) (E : Nat → Nat → Option zEn) (X : Nat → Option (Nat × Nat)) (SL : Nat → Bool) (NW : Nat → Option (Nat × Nat × List Value)) (CS : Nat → Option Int32) (HD : Nat → Nat → Option Nat) (sc : Option (Nat × (Nat → Int32))) (cI cL : ClassId) (RC RS : Nat) (ctor : Bool) (KK : zO → zH → Bool → Nat → Nat → Prop) (rec : zRc) (pc : Nat) (lc : zLc) (st : List Value) (h : zH) (wr : Bool) (k q : Nat) : zwI cc G E X SL NW CS HD sc cI cL RC RS ctor KK rec (.ok (.return_, 1)) pc lc st h wr k q = (st = [] ∧ KK (.inl none) h wr k q) := propext Iff.rfl
theorem zi1_k (x : Int32) (r : List Value) (f : Int32 → List Value → Prop) : zi1 (.int x :: r) f = f x r := propext Iff.rfl
theorem zi2_k (x y : Int32) (r : List Value) (f : Int32 → Int32 → List Value → Prop) : zi2 (.int y :: .int x :: r) f = f x y r := propext Iff.rfl
theorem zr1_k (x : Nat) (r : List Value) (f : Nat → List Value → Prop) : zr1 (.ref x :: r) f = f x r := propext Iff.rfl
theorem zri_k (i : Nat) (j : Int32) (r : List Value) (f : Nat → Int32 → List Value → Prop) : zri (.int j :: .ref i :: r) f = f i j r := propext Iff.rfl
theorem zrii_k (i : Nat) (j x : Int32) (r : List Value) (f : Nat → Int32 → Int32 → List Value → Prop) : zrii (.int x :: .int j :: .ref i :: r) f = f i j x r := propext Iff.rfl
theorem zril_k (i : Nat) (j : Int32) (x : Int64) (r : List Value) (f : Nat → Int32 → Int64 → List Value → Prop) : zril (.long x :: .int j :: .ref i :: r) f = f i j x r := propext Iff.rfl
theorem zvr_k (i : Nat) (v : Value) (r : List Value) (f : Nat → Value → List Value → Prop) : zvr (v :: .ref i :: r) f = f i v r := propext Iff.rfl
theorem zl2_k (x y : Int64) (r : List Value) (f : Int64 → Int64 → List Value → Prop) : zl2 (.long y :: .long x :: r) f = f x y r := propext Iff.rfl
theorem zv1_k (v : Value) (r : List Value) (f : Value → List Value → Prop) : zv1 (v :: r) f = (v.category = 1 ∧ f v r) := propext Iff.rfl
theorem zv2_k (v w : Value) (r : List Value) (f : Value → Value → List Value → Prop) : zv2 (v :: w :: r) f = (v.category = 1 ∧ w.category = 1 ∧ f v w r) := propext Iff.rfl
theorem zv3_k (v w u : Value) (r : List Value) (f : Value → Value → Value → List Value → Prop) : zv3 (v :: w :: u :: r) f = (v.category = 1 ∧ w.category = 1 ∧ u.category = 1 ∧ f v w u r) := propext Iff.rfl
def zlim (o : Option (Option Value)) (f : Int32 → Prop) : Prop := match o with
  | some (some (.int x)) => f x
  | _ => False
def zlrm (o : Option (Option Value)) (f : Nat → Prop) : Prop := match o with
  | some (some (.ref x)) => f x
  | _ => False
def zobm (o : Option va_E) (ci : Nat) (f : List Value → Prop) : Prop := match o with
  | some (.inr (c, fs)) => c = ci ∧ f fs
  | _ => False
def zaim (o : Option va_E) (f : ClassId → Nat → (Nat → Int32) → Prop) : Prop := match o with
  | some (.inl (cA, n, .inl g)) => f cA n g
  | _ => False
def zalm (o : Option va_E) (f : ClassId → Nat → (Nat → Int64) → Prop) : Prop := match o with
  | some (.inl (cA, n, .inr (.inl g))) => f cA n g
  | _ => False
def zfvm (o : Option Value) (f : Value → Prop) : Prop := match o with
  | some v => f v
  | _ => False
theorem zli_k (lc : zLc) (i : Nat) (f : Int32 → Prop) : zli lc i f = zlim lc[i]? f := propext Iff.rfl
theorem zlr_k (lc : zLc) (i : Nat) (f : Nat → Prop) : zlr lc i f = zlrm lc[i]? f := propext Iff.rfl
theorem zob_k (h : zH) (i ci : Nat) (f : List Value → Prop) : zob h i ci f = zobm h[i]? ci f := propext Iff.rfl
theorem zai_k (h : zH) (i : Nat) (f : ClassId → Nat → (Nat → Int32) → Prop) : zai h i f = zaim h[i]? f := propext Iff.rfl
theorem zal_k (h : zH) (i : Nat) (f : ClassId → Nat → (Nat → Int64) → Prop) : zal h i f = zalm h[i]? f := propext Iff.rfl
theorem zfv_k (fs : List Value) (k : Nat) (f : Value → Prop) : zfv fs k f = zfvm fs[k]? f := propext Iff.rfl
theorem zlim_k (x : Int32) (f : Int32 → Prop) : zlim (some (some (.int x))) f = f x := propext Iff.rfl
theorem zlrm_k (x : Nat) (f : Nat → Prop) : zlrm (some (some (.ref x))) f = f x := propext Iff.rfl
theorem zobm_k (c ci : Nat) (fs : List Value) (f : List Value → Prop) : zobm (some (.inr (c, fs))) ci f = (c = ci ∧ f fs) := propext Iff.rfl
theorem zaim_k (cA : ClassId) (n : Nat) (g : Nat → Int32) (f : ClassId → Nat → (Nat → Int32) → Prop) : zaim (some (.inl (cA, n, .inl g))) f = f cA n g := propext Iff.rfl
theorem zalm_k (cA : ClassId) (n : Nat) (g : Nat → Int64) (f : ClassId → Nat → (Nat → Int64) → Prop) : zalm (some (.inl (cA, n, .inr (.inl g)))) f = f cA n g := propext Iff.rfl
theorem zfvm_k (v : Value) (f : Value → Prop) : zfvm (some v) f = f v := propext Iff.rfl
theorem zgetf_k (rec : zRc) (ci kf : Nat) (ty : FieldType) (fin : Bool) (pc : Nat) (lc : zLc) (st : List Value) (h : zH) (wr : Bool) (k q : Nat) : zgetf rec (some (ci, kf, ty, fin)) pc lc st h wr k q = zr1 st (fun i r => zob h i ci (fun fs => zfv fs kf (fun v => rec (pc + 3) lc (v :: r) h wr k q))) := propext Iff.rfl
theorem zput_k (ctor : Bool) (rec : zRc) (ci kf : Nat) (ty : FieldType) (fin : Bool) (pc : Nat) (lc : zLc) (st : List Value) (h : zH) (k q : Nat) : zput ctor rec (some (ci, kf, ty, fin)) pc lc st h k q = zvr st (fun i v r => zob h i ci (fun fs => (fin = true → ctor = true) ∧ narrow ty v = v ∧ fits ty v = true ∧ kf < fs.length ∧ rec (pc + 3) lc r (h.set i (.inr (ci, fs.set kf v))) true k q)) := propext Iff.rfl
theorem zcal_k (cc : ByteArray) (HD : Nat → Nat → Option Nat) (RC RS : Nat) (rec : zRc) (na : Nat) (rc : Option Nat) (fx ro : Bool) (mc ms : Nat) (T : zT) (pc : Nat) (lc : zLc) (st : List Value) (h : zH) (wr : Bool) (k q : Nat) : zcal cc HD RC RS rec (some (na, rc, fx, ro, mc, ms, T)) pc lc st h wr k q = (na ≤ st.length ∧ zrv rc (st.take na).reverse h ∧ (fx = true ∨ ((∀ o ∈ lc, zb_o h.length o) ∧ ∀ v ∈ st.drop na, zb_v h.length v)) ∧ k + mc ≤ RC ∧ q + ms ≤ RS ∧ ((st.drop na).map fun v => v.category).sum ≤ 8 ∧
    T (st.take na).reverse h (fun o h' => (fx = true → h'.length = h.length) ∧ match o with
      | .inl v => rec (pc + 3) lc (v.toList ++ st.drop na) h' (wr || !ro) (k + mc) (q + ms)
      | .inr ci => zcat cc rec (HD pc ci) lc h' (k + mc) (q + ms))) := propext Iff.rfl
theorem zrv_n (a : List Value) (h : zH) : zrv none a h = True := propext Iff.rfl
theorem zrv_s (ci i : Nat) (a : List Value) (h : zH) : zrv (some ci) (.ref i :: a) h = zob h i ci (fun _ => True) := propext Iff.rfl
theorem zswT_n (x : Int32) (r : Nat → Prop) (pc : Nat) (d lo : Int) : zswT x r pc d lo [] = zgo r pc d := propext Iff.rfl
theorem zswT_c (x : Int32) (r : Nat → Prop) (pc : Nat) (d lo o : Int) (l : List Int) : zswT x r pc d lo (o :: l) = ((x.toInt = lo → zgo r pc o) ∧ (¬ x.toInt = lo → zswT x r pc d (lo + 1) l)) := propext Iff.rfl
theorem zgo_k (r : Nat → Prop) (pc : Nat) (off : Int) : zgo r pc off = (0 ≤ (pc : Int) + off ∧ r ((pc : Int) + off).toNat) := propext Iff.rfl
theorem zcc_eq (x y : Int32) : zcc .eq x y = (x = y) := propext Iff.rfl
theorem zcc_ne (x y : Int32) : zcc .ne x y = (¬ x = y) := propext Iff.rfl
theorem zcc_lt (x y : Int32) : zcc .lt x y = (x < y) := propext Iff.rfl
theorem zcc_ge (x y : Int32) : zcc .ge x y = (y ≤ x) := propext Iff.rfl
theorem zcc_gt (x y : Int32) : zcc .gt x y = (y < x) := propext Iff.rfl
theorem zcc_le (x y : Int32) : zcc .le x y = (x ≤ y) := propext Iff.rfl
theorem zldj_k (j : Nat) (f : Nat → Prop) : zldj (.ok (.ldc j, 2)) f = f j := propext Iff.rfl
theorem zexc_k (cc : ByteArray) (SL : Nat → Bool) (RC RS : Nat) (KK : zO → zH → Bool → Nat → Nat → Prop) (ci ic pc : Nat) (st : List Value) (h : zH) (wr : Bool) (k q : Nat) : zexc cc SL RC RS KK (ci, ic) pc st h wr k q = (wr = false ∧ (st.map fun v => v.category).sum ≤ 8 ∧ k + 1 ≤ RC ∧ q + 6 ≤ RS ∧ decode cc (pc + 3) = .ok (.dup, 1) ∧ zldj (decode cc (pc + 4)) (fun j => SL j = true) ∧ decode cc (pc + 6) = .ok (.invokespecial ic, 3) ∧ decode cc (pc + 9) = .ok (.athrow, 1) ∧ KK (.inr ci) h wr k q) := propext Iff.rfl
theorem znew_k (RC RS : Nat) (rec : zRc) (ci n : Nat) (fs : List Value) (pc : Nat) (lc : zLc) (st : List Value) (h : zH) (k q : Nat) : znew RC RS rec (some (ci, n, fs)) pc lc st h k q = (k + 1 ≤ RC ∧ q + n ≤ RS ∧ (∀ o ∈ lc, zb_o h.length o) ∧ (∀ v ∈ st, zb_v h.length v) ∧ (∀ y ∈ h, zb_e h.length y) ∧ (∀ v ∈ fs, zb_v h.length v) ∧ h.length < 1000 ∧ rec (pc + 3) lc (.ref h.length :: st) (h ++ [.inr (ci, fs)]) true (k + 1) (q + n)) := propext Iff.rfl
theorem zlit : ((1 : Int32) = 0) = False ∧ ((0 : Int32) = 1) = False ∧ ((-1 : Int32) = 0) = False := ⟨eq_false (by decide), eq_false (by decide), eq_false (by decide)⟩
theorem zial_k (sc : Option (Nat × (Nat → Int32))) (cI : ClassId) (rec : zRc) (pc : Nat) (lc : zLc) (st : List Value) (h : zH) (wr : Bool) (k q : Nat) : zial sc cI rec pc lc st h wr k q = zri st (fun i j r => if i = 1000 then (match sc with
    | none => False
    | some (L, xs) => vp_in j L ∧ rec (pc + 1) lc (.int (xs j.toNatClampNeg) :: r) h wr k q) else zai h i (fun cA n g => cA = cI ∧ vp_in j n ∧ rec (pc + 1) lc (.int (g j.toNatClampNeg) :: r) h wr k q)) := propext Iff.rfl
theorem zct_i (x : Int32) : (Value.int x).category = 1 := rfl
theorem zct_l (x : Int64) : (Value.long x).category = 2 := rfl
theorem zct_r (x : Nat) : (Value.ref x).category = 1 := rfl
theorem zct_n : Value.null.category = 1 := rfl
theorem zKK_r (ret : Option FieldType) (ro : Bool) (mc ms : Nat) (K : zO → zH → Prop) (v : Option Value) (h : zH) (wr : Bool) (k q : Nat) : zKK ret ro mc ms K (.inl v) h wr k q = (((ro = true → wr = false) ∧ k ≤ mc ∧ q ≤ ms ∧ znr ret v) ∧ K (.inl v) h) := propext Iff.rfl
theorem zKK_x (ret : Option FieldType) (ro : Bool) (mc ms : Nat) (K : zO → zH → Prop) (ci : Nat) (h : zH) (wr : Bool) (k q : Nat) : zKK ret ro mc ms K (.inr ci) h wr k q = (True ∧ K (.inr ci) h) := propext Iff.rfl
theorem znr_i (x : Int32) : znr (some .int) (some (.int x)) = True := by simp [znr, narrow]
theorem znr_0 : znr (some .boolean) (some (.int 0)) = True := eq_true (show narrow .boolean (.int 0) = .int 0 by decide)
theorem znr_1 : znr (some .boolean) (some (.int 1)) = True := eq_true (show narrow .boolean (.int 1) = .int 1 by decide)
theorem znr_v : znr none none = True := propext Iff.rfl
theorem znr_a (t : FieldType) (i : Nat) : znr (some (.array t)) (some (.ref i)) = True := propext Iff.rfl
theorem znr_o (t : String) (i : Nat) : znr (some (.object t)) (some (.ref i)) = True := propext Iff.rfl
theorem znar_i (x : Int32) : (narrow .int (.int x) = .int x) = True := by simp [narrow]
theorem znar_r (t : String) (i : Nat) : (narrow (.object t) (.ref i) = .ref i) = True := by simp [narrow]
theorem znar_a (t : FieldType) (i : Nat) : (narrow (.array t) (.ref i) = .ref i) = True := by simp [narrow]
theorem zfit_i (x : Int32) : fits .int (.int x) = true := rfl
theorem zfit_r (t : String) (i : Nat) : fits (.object t) (.ref i) = true := rfl
theorem zfit_a (t : FieldType) (i : Nat) : fits (.array t) (.ref i) = true := rfl
theorem zbc : ((Int8.ofInt 6).toInt32 = 6) ∧ ((Int8.ofInt 7).toInt32 = 7) ∧ ((Int8.ofInt 8).toInt32 = 8) ∧ ((Int8.ofInt 9).toInt32 = 9) ∧ ((Int8.ofInt 14).toInt32 = 14) ∧ ((Int8.ofInt 15).toInt32 = 15) ∧ ((Int8.ofInt 16).toInt32 = 16) ∧ ((Int8.ofInt 24).toInt32 = 24) ∧ ((Int8.ofInt 31).toInt32 = 31) ∧ ((Int8.ofInt 64).toInt32 = 64) ∧ ((Int8.ofInt 127).toInt32 = 127) ∧ ((Int16.ofInt 255).toInt32 = 255) ∧ ((Int16.ofInt 510).toInt32 = 510) ∧ ((Int16.ofInt 1023).toInt32 = 1023) ∧ ((Int16.ofInt 4096).toInt32 = 4096) ∧ ((Int16.ofInt 16384).toInt32 = 16384) := ⟨by decide +kernel, by decide +kernel, by decide +kernel, by decide +kernel, by decide +kernel, by decide +kernel, by decide +kernel, by decide +kernel, by decide +kernel, by decide +kernel, by decide +kernel, by decide +kernel, by decide +kernel, by decide +kernel, by decide +kernel, by decide +kernel⟩
end
section
def rmL (d mc ms : Nat) : Room := { frames := d + 1, cells := mc, slots := ms, locals := 30 * d + 100 }
def zGn : Nat → Option (Nat × Nat × FieldType × Bool) := fun _ => none
def zEn0 : ClassId → ClassId → Nat → Nat → Option zEn := fun _ _ _ _ => none
def zXn : Nat → Option (Nat × Nat) := fun _ => none
def zSn : Nat → Bool := fun _ => false
def zNn : Nat → Option (Nat × Nat × List Value) := fun _ => none
def zCn : Nat → Option Int32 := fun _ => none
theorem wg_ac (y : Cond) : Cond.arrayClass .int ∈ y :: wsG := List.mem_cons_of_mem _ (wsG_all (L := [Cond.arrayClass .int]) (by decide +kernel) _ List.mem_cons_self)
end
section
theorem kn_LA : Cond.initialized "PlaceTestsLaw" ∈ wsG := wg 27 (by decide +kernel) (by decide +kernel)
theorem kn_PT : Cond.initialized "PlaceTests" ∈ wsG := wg 28 (by decide +kernel) (by decide +kernel)
theorem kn_FR : Cond.initialized "PlaceTests$Frame" ∈ wsG := wg 29 (by decide +kernel) (by decide +kernel)
theorem kn_SC : Cond.initialized "PlaceTests$Scissors" ∈ wsG := wg 31 (by decide +kernel) (by decide +kernel)
theorem kn_ST : Cond.initialized "PlaceTests$StencilRule" ∈ wsG := wg 32 (by decide +kernel) (by decide +kernel)
theorem kn_BL : Cond.initialized "PlaceTests$Blending" ∈ wsG := wg 33 (by decide +kernel) (by decide +kernel)
theorem kn_MO : Cond.initialized "PlaceTestsModel" ∈ wsG := wg 34 (by decide +kernel) (by decide +kernel)
theorem kn_CO : Cond.initialized "PlaceTests$Colour" ∈ wsG := wg 39 (by decide +kernel) (by decide +kernel)
theorem kk_LA_8 : Cond.classLink "PlaceTestsLaw" 8 "PlaceTests" ∈ wsG := wg 41 (by decide +kernel) (by decide +kernel)
theorem kt_PT : Cond.instantiable "PlaceTests" 10 ∈ wsG := wg 42 (by decide +kernel) (by decide +kernel)
theorem km_LA_55 : Cond.methodLink "PlaceTestsLaw" 55 y_PT_init ∈ wsG := wg 43 (by decide +kernel) (by decide +kernel)
theorem ki_PT_init : Cond.instanceMethod y_PT_init ∈ wsG := wg 44 (by decide +kernel) (by decide +kernel)
theorem km_PT_1 : Cond.methodLink "PlaceTests" 1 Lib.objectInit ∈ wsG := wg 46 (by decide +kernel) (by decide +kernel)
theorem kk_PT_7 : Cond.classLink "PlaceTests" 7 "PlaceTests$Frame" ∈ wsG := wg 49 (by decide +kernel) (by decide +kernel)
theorem kt_FR : Cond.instantiable "PlaceTests$Frame" 9 ∈ wsG := wg 50 (by decide +kernel) (by decide +kernel)
theorem km_PT_9 : Cond.methodLinkNest "PlaceTests" 9 y_FR_init "PlaceTests" ∈ wsG := wg 51 (by decide +kernel) (by decide +kernel)
theorem ki_FR_init : Cond.instanceMethod y_FR_init ∈ wsG := wg 52 (by decide +kernel) (by decide +kernel)
theorem km_FR_5 : Cond.methodLink "PlaceTests$Frame" 5 Lib.objectInit ∈ wsG := wg 54 (by decide +kernel) (by decide +kernel)
theorem km_FR_11 : Cond.methodLink "PlaceTests$Frame" 11 Lib.Math.min.name ∈ wsG := wg 55 (by decide +kernel) (by decide +kernel)
theorem km_FR_17 : Cond.methodLink "PlaceTests$Frame" 17 Lib.Math.max.name ∈ wsG := wg 58 (by decide +kernel) (by decide +kernel)
theorem kf_FR_20 : Cond.fieldLink "PlaceTests$Frame" 20 "PlaceTests$Frame" "room" "I" ∈ wsG := wg 61 (by decide +kernel) (by decide +kernel)
theorem kf_PT_73 : Cond.fieldLinkNest "PlaceTests" 73 "PlaceTests$Frame" "room" "I" "PlaceTests" ∈ wsG := wg 62 (by decide +kernel) (by decide +kernel)
theorem kf_FR_24 : Cond.fieldLink "PlaceTests$Frame" 24 "PlaceTests$Frame" "colours" "[I" ∈ wsG := wg 63 (by decide +kernel) (by decide +kernel)
theorem kf_PT_244 : Cond.fieldLinkNest "PlaceTests" 244 "PlaceTests$Frame" "colours" "[I" "PlaceTests" ∈ wsG := wg 64 (by decide +kernel) (by decide +kernel)
theorem kf_FR_28 : Cond.fieldLink "PlaceTests$Frame" 28 "PlaceTests$Frame" "depths" "[I" ∈ wsG := wg 65 (by decide +kernel) (by decide +kernel)
theorem kf_PT_238 : Cond.fieldLinkNest "PlaceTests" 238 "PlaceTests$Frame" "depths" "[I" "PlaceTests" ∈ wsG := wg 66 (by decide +kernel) (by decide +kernel)
theorem kf_FR_31 : Cond.fieldLink "PlaceTests$Frame" 31 "PlaceTests$Frame" "stencils" "[I" ∈ wsG := wg 67 (by decide +kernel) (by decide +kernel)
theorem kf_PT_229 : Cond.fieldLinkNest "PlaceTests" 229 "PlaceTests$Frame" "stencils" "[I" "PlaceTests" ∈ wsG := wg 68 (by decide +kernel) (by decide +kernel)
theorem kf_FR_34 : Cond.fieldLink "PlaceTests$Frame" 34 "PlaceTests$Frame" "x0" "I" ∈ wsG := wg 69 (by decide +kernel) (by decide +kernel)
theorem kf_PT_186 : Cond.fieldLinkNest "PlaceTests" 186 "PlaceTests$Frame" "x0" "I" "PlaceTests" ∈ wsG := wg 70 (by decide +kernel) (by decide +kernel)
theorem kf_FR_37 : Cond.fieldLink "PlaceTests$Frame" 37 "PlaceTests$Frame" "y0" "I" ∈ wsG := wg 71 (by decide +kernel) (by decide +kernel)
theorem kf_PT_182 : Cond.fieldLinkNest "PlaceTests" 182 "PlaceTests$Frame" "y0" "I" "PlaceTests" ∈ wsG := wg 72 (by decide +kernel) (by decide +kernel)
theorem kf_FR_40 : Cond.fieldLink "PlaceTests$Frame" 40 "PlaceTests$Frame" "wide" "I" ∈ wsG := wg 73 (by decide +kernel) (by decide +kernel)
theorem kf_PT_187 : Cond.fieldLinkNest "PlaceTests" 187 "PlaceTests$Frame" "wide" "I" "PlaceTests" ∈ wsG := wg 74 (by decide +kernel) (by decide +kernel)
theorem kf_FR_43 : Cond.fieldLink "PlaceTests$Frame" 43 "PlaceTests$Frame" "high" "I" ∈ wsG := wg 75 (by decide +kernel) (by decide +kernel)
theorem kf_PT_183 : Cond.fieldLinkNest "PlaceTests" 183 "PlaceTests$Frame" "high" "I" "PlaceTests" ∈ wsG := wg 76 (by decide +kernel) (by decide +kernel)
theorem kf_FR_46 : Cond.fieldLink "PlaceTests$Frame" 46 "PlaceTests$Frame" "count" "I" ∈ wsG := wg 77 (by decide +kernel) (by decide +kernel)
theorem kf_PT_226 : Cond.fieldLinkNest "PlaceTests" 226 "PlaceTests$Frame" "count" "I" "PlaceTests" ∈ wsG := wg 78 (by decide +kernel) (by decide +kernel)
theorem kk_PT_18 : Cond.classLink "PlaceTests" 18 "PlaceTests$Scissors" ∈ wsG := wg 99 (by decide +kernel) (by decide +kernel)
theorem kt_SC : Cond.instantiable "PlaceTests$Scissors" 4 ∈ wsG := wg 100 (by decide +kernel) (by decide +kernel)
theorem km_PT_20 : Cond.methodLinkNest "PlaceTests" 20 y_SC_init "PlaceTests" ∈ wsG := wg 101 (by decide +kernel) (by decide +kernel)
theorem ki_SC_init : Cond.instanceMethod y_SC_init ∈ wsG := wg 102 (by decide +kernel) (by decide +kernel)
theorem km_SC_1 : Cond.methodLink "PlaceTests$Scissors" 1 Lib.objectInit ∈ wsG := wg 104 (by decide +kernel) (by decide +kernel)
theorem kf_SC_7 : Cond.fieldLink "PlaceTests$Scissors" 7 "PlaceTests$Scissors" "x0" "I" ∈ wsG := wg 105 (by decide +kernel) (by decide +kernel)
theorem kf_PT_80 : Cond.fieldLinkNest "PlaceTests" 80 "PlaceTests$Scissors" "x0" "I" "PlaceTests" ∈ wsG := wg 106 (by decide +kernel) (by decide +kernel)
theorem kf_SC_13 : Cond.fieldLink "PlaceTests$Scissors" 13 "PlaceTests$Scissors" "y0" "I" ∈ wsG := wg 107 (by decide +kernel) (by decide +kernel)
theorem kf_PT_83 : Cond.fieldLinkNest "PlaceTests" 83 "PlaceTests$Scissors" "y0" "I" "PlaceTests" ∈ wsG := wg 108 (by decide +kernel) (by decide +kernel)
theorem kf_SC_16 : Cond.fieldLink "PlaceTests$Scissors" 16 "PlaceTests$Scissors" "x1" "I" ∈ wsG := wg 109 (by decide +kernel) (by decide +kernel)
theorem kf_PT_86 : Cond.fieldLinkNest "PlaceTests" 86 "PlaceTests$Scissors" "x1" "I" "PlaceTests" ∈ wsG := wg 110 (by decide +kernel) (by decide +kernel)
theorem kf_SC_19 : Cond.fieldLink "PlaceTests$Scissors" 19 "PlaceTests$Scissors" "y1" "I" ∈ wsG := wg 111 (by decide +kernel) (by decide +kernel)
theorem kf_PT_89 : Cond.fieldLinkNest "PlaceTests" 89 "PlaceTests$Scissors" "y1" "I" "PlaceTests" ∈ wsG := wg 112 (by decide +kernel) (by decide +kernel)
theorem kk_PT_33 : Cond.classLink "PlaceTests" 33 "PlaceTests$StencilRule" ∈ wsG := wg 122 (by decide +kernel) (by decide +kernel)
theorem kt_ST : Cond.instantiable "PlaceTests$StencilRule" 7 ∈ wsG := wg 123 (by decide +kernel) (by decide +kernel)
theorem km_PT_35 : Cond.methodLinkNest "PlaceTests" 35 y_ST_init "PlaceTests" ∈ wsG := wg 124 (by decide +kernel) (by decide +kernel)
theorem ki_ST_init : Cond.instanceMethod y_ST_init ∈ wsG := wg 125 (by decide +kernel) (by decide +kernel)
theorem km_ST_3 : Cond.methodLink "PlaceTests$StencilRule" 3 Lib.objectInit ∈ wsG := wg 127 (by decide +kernel) (by decide +kernel)
theorem kf_ST_9 : Cond.fieldLink "PlaceTests$StencilRule" 9 "PlaceTests$StencilRule" "test" "I" ∈ wsG := wg 128 (by decide +kernel) (by decide +kernel)
theorem kf_PT_104 : Cond.fieldLinkNest "PlaceTests" 104 "PlaceTests$StencilRule" "test" "I" "PlaceTests" ∈ wsG := wg 129 (by decide +kernel) (by decide +kernel)
theorem kf_ST_15 : Cond.fieldLink "PlaceTests$StencilRule" 15 "PlaceTests$StencilRule" "value" "I" ∈ wsG := wg 130 (by decide +kernel) (by decide +kernel)
theorem kf_PT_117 : Cond.fieldLinkNest "PlaceTests" 117 "PlaceTests$StencilRule" "value" "I" "PlaceTests" ∈ wsG := wg 131 (by decide +kernel) (by decide +kernel)
theorem kf_ST_18 : Cond.fieldLink "PlaceTests$StencilRule" 18 "PlaceTests$StencilRule" "mask" "I" ∈ wsG := wg 132 (by decide +kernel) (by decide +kernel)
theorem kf_PT_120 : Cond.fieldLinkNest "PlaceTests" 120 "PlaceTests$StencilRule" "mask" "I" "PlaceTests" ∈ wsG := wg 133 (by decide +kernel) (by decide +kernel)
theorem kf_ST_29 : Cond.fieldLink "PlaceTests$StencilRule" 29 "PlaceTests$StencilRule" "written" "I" ∈ wsG := wg 134 (by decide +kernel) (by decide +kernel)
theorem kf_PT_123 : Cond.fieldLinkNest "PlaceTests" 123 "PlaceTests$StencilRule" "written" "I" "PlaceTests" ∈ wsG := wg 135 (by decide +kernel) (by decide +kernel)
theorem kf_PT_126 : Cond.fieldLinkNest "PlaceTests" 126 "PlaceTests$StencilRule" "fails" "I" "PlaceTests" ∈ wsG := wg 136 (by decide +kernel) (by decide +kernel)
theorem kf_PT_129 : Cond.fieldLinkNest "PlaceTests" 129 "PlaceTests$StencilRule" "depthFails" "I" "PlaceTests" ∈ wsG := wg 137 (by decide +kernel) (by decide +kernel)
theorem kf_PT_132 : Cond.fieldLinkNest "PlaceTests" 132 "PlaceTests$StencilRule" "holds" "I" "PlaceTests" ∈ wsG := wg 138 (by decide +kernel) (by decide +kernel)
theorem kk_PT_43 : Cond.classLink "PlaceTests" 43 "PlaceTests$Blending" ∈ wsG := wg 154 (by decide +kernel) (by decide +kernel)
theorem kt_BL : Cond.instantiable "PlaceTests$Blending" 7 ∈ wsG := wg 155 (by decide +kernel) (by decide +kernel)
theorem km_PT_45 : Cond.methodLinkNest "PlaceTests" 45 y_BL_init "PlaceTests" ∈ wsG := wg 156 (by decide +kernel) (by decide +kernel)
theorem ki_BL_init : Cond.instanceMethod y_BL_init ∈ wsG := wg 157 (by decide +kernel) (by decide +kernel)
theorem km_BL_3 : Cond.methodLink "PlaceTests$Blending" 3 Lib.objectInit ∈ wsG := wg 159 (by decide +kernel) (by decide +kernel)
theorem kf_BL_28 : Cond.fieldLink "PlaceTests$Blending" 28 "PlaceTests$Blending" "source" "I" ∈ wsG := wg 160 (by decide +kernel) (by decide +kernel)
theorem kf_PT_145 : Cond.fieldLinkNest "PlaceTests" 145 "PlaceTests$Blending" "source" "I" "PlaceTests" ∈ wsG := wg 161 (by decide +kernel) (by decide +kernel)
theorem kf_BL_38 : Cond.fieldLink "PlaceTests$Blending" 38 "PlaceTests$Blending" "place" "I" ∈ wsG := wg 162 (by decide +kernel) (by decide +kernel)
theorem kf_PT_148 : Cond.fieldLinkNest "PlaceTests" 148 "PlaceTests$Blending" "place" "I" "PlaceTests" ∈ wsG := wg 163 (by decide +kernel) (by decide +kernel)
theorem kf_BL_25 : Cond.fieldLink "PlaceTests$Blending" 25 "PlaceTests$Blending" "sourceA" "I" ∈ wsG := wg 164 (by decide +kernel) (by decide +kernel)
theorem kf_PT_151 : Cond.fieldLinkNest "PlaceTests" 151 "PlaceTests$Blending" "sourceA" "I" "PlaceTests" ∈ wsG := wg 165 (by decide +kernel) (by decide +kernel)
theorem kf_BL_35 : Cond.fieldLink "PlaceTests$Blending" 35 "PlaceTests$Blending" "placeA" "I" ∈ wsG := wg 166 (by decide +kernel) (by decide +kernel)
theorem kf_PT_154 : Cond.fieldLinkNest "PlaceTests" 154 "PlaceTests$Blending" "placeA" "I" "PlaceTests" ∈ wsG := wg 167 (by decide +kernel) (by decide +kernel)
theorem kf_BL_9 : Cond.fieldLink "PlaceTests$Blending" 9 "PlaceTests$Blending" "equation" "I" ∈ wsG := wg 168 (by decide +kernel) (by decide +kernel)
theorem kf_PT_135 : Cond.fieldLinkNest "PlaceTests" 135 "PlaceTests$Blending" "equation" "I" "PlaceTests" ∈ wsG := wg 169 (by decide +kernel) (by decide +kernel)
theorem kf_BL_41 : Cond.fieldLink "PlaceTests$Blending" 41 "PlaceTests$Blending" "equationA" "I" ∈ wsG := wg 170 (by decide +kernel) (by decide +kernel)
theorem kf_PT_157 : Cond.fieldLinkNest "PlaceTests" 157 "PlaceTests$Blending" "equationA" "I" "PlaceTests" ∈ wsG := wg 171 (by decide +kernel) (by decide +kernel)
theorem kf_BL_56 : Cond.fieldLink "PlaceTests$Blending" 56 "PlaceTests$Blending" "constant" "I" ∈ wsG := wg 172 (by decide +kernel) (by decide +kernel)
theorem kf_PT_160 : Cond.fieldLinkNest "PlaceTests" 160 "PlaceTests$Blending" "constant" "I" "PlaceTests" ∈ wsG := wg 173 (by decide +kernel) (by decide +kernel)
theorem kf_PT_12 : Cond.fieldLink "PlaceTests" 12 "PlaceTests" "places" "LPlaceTests$Frame;" ∈ wsG := wg 189 (by decide +kernel) (by decide +kernel)
theorem kf_PT_21 : Cond.fieldLink "PlaceTests" 21 "PlaceTests" "opening" "LPlaceTests$Scissors;" ∈ wsG := wg 190 (by decide +kernel) (by decide +kernel)
theorem kf_PT_25 : Cond.fieldLink "PlaceTests" 25 "PlaceTests" "depthTest" "I" ∈ wsG := wg 191 (by decide +kernel) (by decide +kernel)
theorem kf_PT_29 : Cond.fieldLink "PlaceTests" 29 "PlaceTests" "depthWritten" "Z" ∈ wsG := wg 192 (by decide +kernel) (by decide +kernel)
theorem kf_PT_36 : Cond.fieldLink "PlaceTests" 36 "PlaceTests" "front" "LPlaceTests$StencilRule;" ∈ wsG := wg 193 (by decide +kernel) (by decide +kernel)
theorem kf_PT_40 : Cond.fieldLink "PlaceTests" 40 "PlaceTests" "back" "LPlaceTests$StencilRule;" ∈ wsG := wg 194 (by decide +kernel) (by decide +kernel)
theorem kf_PT_46 : Cond.fieldLink "PlaceTests" 46 "PlaceTests" "blending" "LPlaceTests$Blending;" ∈ wsG := wg 195 (by decide +kernel) (by decide +kernel)
theorem kf_PT_50 : Cond.fieldLink "PlaceTests" 50 "PlaceTests" "logicNumber" "I" ∈ wsG := wg 196 (by decide +kernel) (by decide +kernel)
theorem kf_PT_53 : Cond.fieldLink "PlaceTests" 53 "PlaceTests" "colourBits" "I" ∈ wsG := wg 197 (by decide +kernel) (by decide +kernel)
theorem kf_PT_56 : Cond.fieldLink "PlaceTests" 56 "PlaceTests" "answers" "[I" ∈ wsG := wg 198 (by decide +kernel) (by decide +kernel)
theorem km_LA_69 : Cond.methodLink "PlaceTestsLaw" 69 y_PT_scissors ∈ wsG := wg 220 (by decide +kernel) (by decide +kernel)
theorem ki_PT_scissors : Cond.instanceMethod y_PT_scissors ∈ wsG := wg 221 (by decide +kernel) (by decide +kernel)
theorem kv_PT_scissors : Cond.selects "PlaceTests" y_PT_scissors y_PT_scissors ∈ wsG := wg 222 (by decide +kernel) (by decide +kernel)
theorem km_LA_85 : Cond.methodLink "PlaceTestsLaw" 85 y_PT_constant ∈ wsG := wg 224 (by decide +kernel) (by decide +kernel)
theorem ki_PT_constant : Cond.instanceMethod y_PT_constant ∈ wsG := wg 225 (by decide +kernel) (by decide +kernel)
theorem kv_PT_constant : Cond.selects "PlaceTests" y_PT_constant y_PT_constant ∈ wsG := wg 226 (by decide +kernel) (by decide +kernel)
theorem km_LA_59 : Cond.methodLink "PlaceTestsLaw" 59 y_LA_frame ∈ wsG := wg 228 (by decide +kernel) (by decide +kernel)
theorem ks_LA_frame : Cond.static y_LA_frame ∈ wsG := wg 229 (by decide +kernel) (by decide +kernel)
theorem kk_LA_13 : Cond.classLink "PlaceTestsLaw" 13 "java/lang/IllegalArgumentException" ∈ wsG := wg 231 (by decide +kernel) (by decide +kernel)
theorem km_LA_7 : Cond.methodLink "PlaceTestsLaw" 7 y_PT_frame ∈ wsG := wg 232 (by decide +kernel) (by decide +kernel)
theorem ki_PT_frame : Cond.instanceMethod y_PT_frame ∈ wsG := wg 233 (by decide +kernel) (by decide +kernel)
theorem kv_PT_frame : Cond.selects "PlaceTests" y_PT_frame y_PT_frame ∈ wsG := wg 234 (by decide +kernel) (by decide +kernel)
theorem km_PT_60 : Cond.methodLink "PlaceTests" 60 y_PT_isWithin ∈ wsG := wg 236 (by decide +kernel) (by decide +kernel)
theorem ks_PT_isWithin : Cond.static y_PT_isWithin ∈ wsG := wg 237 (by decide +kernel) (by decide +kernel)
theorem kk_PT_64 : Cond.classLink "PlaceTests" 64 "java/lang/IllegalArgumentException" ∈ wsG := wg 239 (by decide +kernel) (by decide +kernel)
theorem km_PT_76 : Cond.methodLinkNest "PlaceTests" 76 y_FR_begin "PlaceTests" ∈ wsG := wg 307 (by decide +kernel) (by decide +kernel)
theorem ki_FR_begin : Cond.instanceMethod y_FR_begin ∈ wsG := wg 309 (by decide +kernel) (by decide +kernel)
theorem km_LA_73 : Cond.methodLink "PlaceTestsLaw" 73 y_LA_depth ∈ wsG := wg 311 (by decide +kernel) (by decide +kernel)
theorem ks_LA_depth : Cond.static y_LA_depth ∈ wsG := wg 312 (by decide +kernel) (by decide +kernel)
theorem km_LA_15 : Cond.methodLink "PlaceTestsLaw" 15 y_PT_depth ∈ wsG := wg 314 (by decide +kernel) (by decide +kernel)
theorem ki_PT_depth : Cond.instanceMethod y_PT_depth ∈ wsG := wg 315 (by decide +kernel) (by decide +kernel)
theorem kv_PT_depth : Cond.selects "PlaceTests" y_PT_depth y_PT_depth ∈ wsG := wg 316 (by decide +kernel) (by decide +kernel)
theorem km_LA_77 : Cond.methodLink "PlaceTestsLaw" 77 y_LA_stencil ∈ wsG := wg 319 (by decide +kernel) (by decide +kernel)
theorem ks_LA_stencil : Cond.static y_LA_stencil ∈ wsG := wg 320 (by decide +kernel) (by decide +kernel)
theorem km_LA_19 : Cond.methodLink "PlaceTestsLaw" 19 y_PT_stencil ∈ wsG := wg 322 (by decide +kernel) (by decide +kernel)
theorem ki_PT_stencil : Cond.instanceMethod y_PT_stencil ∈ wsG := wg 323 (by decide +kernel) (by decide +kernel)
theorem kv_PT_stencil : Cond.selects "PlaceTests" y_PT_stencil y_PT_stencil ∈ wsG := wg 324 (by decide +kernel) (by decide +kernel)
theorem km_PT_94 : Cond.methodLink "PlaceTests" 94 y_PT_isSide ∈ wsG := wg 326 (by decide +kernel) (by decide +kernel)
theorem ks_PT_isSide : Cond.static y_PT_isSide ∈ wsG := wg 327 (by decide +kernel) (by decide +kernel)
theorem km_PT_100 : Cond.methodLink "PlaceTests" 100 y_PT_ruleOf ∈ wsG := wg 330 (by decide +kernel) (by decide +kernel)
theorem ki_PT_ruleOf : Cond.instanceMethod y_PT_ruleOf ∈ wsG := wg 332 (by decide +kernel) (by decide +kernel)
theorem km_PT_107 : Cond.methodLink "PlaceTests" 107 y_PT_isByte ∈ wsG := wg 334 (by decide +kernel) (by decide +kernel)
theorem ks_PT_isByte : Cond.static y_PT_isByte ∈ wsG := wg 335 (by decide +kernel) (by decide +kernel)
theorem km_PT_112 : Cond.methodLink "PlaceTests" 112 y_PT_isDeed ∈ wsG := wg 338 (by decide +kernel) (by decide +kernel)
theorem ks_PT_isDeed : Cond.static y_PT_isDeed ∈ wsG := wg 339 (by decide +kernel) (by decide +kernel)
theorem km_LA_81 : Cond.methodLink "PlaceTestsLaw" 81 y_LA_blend ∈ wsG := wg 342 (by decide +kernel) (by decide +kernel)
theorem ks_LA_blend : Cond.static y_LA_blend ∈ wsG := wg 343 (by decide +kernel) (by decide +kernel)
theorem km_LA_23 : Cond.methodLink "PlaceTestsLaw" 23 y_PT_blend ∈ wsG := wg 345 (by decide +kernel) (by decide +kernel)
theorem ki_PT_blend : Cond.instanceMethod y_PT_blend ∈ wsG := wg 346 (by decide +kernel) (by decide +kernel)
theorem kv_PT_blend : Cond.selects "PlaceTests" y_PT_blend y_PT_blend ∈ wsG := wg 347 (by decide +kernel) (by decide +kernel)
theorem km_PT_138 : Cond.methodLink "PlaceTests" 138 y_PT_isFactor ∈ wsG := wg 349 (by decide +kernel) (by decide +kernel)
theorem ks_PT_isFactor : Cond.static y_PT_isFactor ∈ wsG := wg 350 (by decide +kernel) (by decide +kernel)
theorem km_LA_89 : Cond.methodLink "PlaceTestsLaw" 89 y_LA_logic ∈ wsG := wg 354 (by decide +kernel) (by decide +kernel)
theorem ks_LA_logic : Cond.static y_LA_logic ∈ wsG := wg 355 (by decide +kernel) (by decide +kernel)
theorem km_LA_27 : Cond.methodLink "PlaceTestsLaw" 27 y_PT_logic ∈ wsG := wg 357 (by decide +kernel) (by decide +kernel)
theorem ki_PT_logic : Cond.instanceMethod y_PT_logic ∈ wsG := wg 358 (by decide +kernel) (by decide +kernel)
theorem kv_PT_logic : Cond.selects "PlaceTests" y_PT_logic y_PT_logic ∈ wsG := wg 359 (by decide +kernel) (by decide +kernel)
theorem km_LA_93 : Cond.methodLink "PlaceTestsLaw" 93 y_LA_mask ∈ wsG := wg 362 (by decide +kernel) (by decide +kernel)
theorem ks_LA_mask : Cond.static y_LA_mask ∈ wsG := wg 363 (by decide +kernel) (by decide +kernel)
theorem km_LA_31 : Cond.methodLink "PlaceTestsLaw" 31 y_PT_mask ∈ wsG := wg 365 (by decide +kernel) (by decide +kernel)
theorem ki_PT_mask : Cond.instanceMethod y_PT_mask ∈ wsG := wg 366 (by decide +kernel) (by decide +kernel)
theorem kv_PT_mask : Cond.selects "PlaceTests" y_PT_mask y_PT_mask ∈ wsG := wg 367 (by decide +kernel) (by decide +kernel)
theorem km_PT_167 : Cond.methodLinkNest "PlaceTests" 167 y_CO_bitsOf "PlaceTests" ∈ wsG := wg 370 (by decide +kernel) (by decide +kernel)
theorem ks_CO_bitsOf : Cond.static y_CO_bitsOf ∈ wsG := wg 371 (by decide +kernel) (by decide +kernel)
theorem km_LA_96 : Cond.methodLink "PlaceTestsLaw" 96 y_LA_clear ∈ wsG := wg 373 (by decide +kernel) (by decide +kernel)
theorem ks_LA_clear : Cond.static y_LA_clear ∈ wsG := wg 374 (by decide +kernel) (by decide +kernel)
theorem km_LA_34 : Cond.methodLink "PlaceTestsLaw" 34 y_PT_clear ∈ wsG := wg 376 (by decide +kernel) (by decide +kernel)
theorem ki_PT_clear : Cond.instanceMethod y_PT_clear ∈ wsG := wg 377 (by decide +kernel) (by decide +kernel)
theorem kv_PT_clear : Cond.selects "PlaceTests" y_PT_clear y_PT_clear ∈ wsG := wg 378 (by decide +kernel) (by decide +kernel)
theorem km_PT_175 : Cond.methodLink "PlaceTests" 175 y_PT_isDepth ∈ wsG := wg 381 (by decide +kernel) (by decide +kernel)
theorem ks_PT_isDepth : Cond.static y_PT_isDepth ∈ wsG := wg 382 (by decide +kernel) (by decide +kernel)
theorem kc_PT_260 : Cond.constant "PlaceTests" 260 16777215 ∈ wsG := wg 384 (by decide +kernel) (by decide +kernel)
theorem km_PT_190 : Cond.methodLinkNest "PlaceTests" 190 y_SC_hold "PlaceTests" ∈ wsG := wg 387 (by decide +kernel) (by decide +kernel)
theorem ki_SC_hold : Cond.instanceMethod y_SC_hold ∈ wsG := wg 389 (by decide +kernel) (by decide +kernel)
theorem km_PT_194 : Cond.methodLinkNest "PlaceTests" 194 y_FR_indexOf "PlaceTests" ∈ wsG := wg 391 (by decide +kernel) (by decide +kernel)
theorem ki_FR_indexOf : Cond.instanceMethod y_FR_indexOf ∈ wsG := wg 393 (by decide +kernel) (by decide +kernel)
theorem km_PT_198 : Cond.methodLink "PlaceTests" 198 y_PT_clearPlace ∈ wsG := wg 395 (by decide +kernel) (by decide +kernel)
theorem ki_PT_clearPlace : Cond.instanceMethod y_PT_clearPlace ∈ wsG := wg 397 (by decide +kernel) (by decide +kernel)
theorem km_PT_250 : Cond.methodLink "PlaceTests" 250 y_PT_merged ∈ wsG := wg 399 (by decide +kernel) (by decide +kernel)
theorem ks_PT_merged : Cond.static y_PT_merged ∈ wsG := wg 400 (by decide +kernel) (by decide +kernel)
theorem km_LA_100 : Cond.methodLink "PlaceTestsLaw" 100 y_LA_draw ∈ wsG := wg 402 (by decide +kernel) (by decide +kernel)
theorem ks_LA_draw : Cond.static y_LA_draw ∈ wsG := wg 403 (by decide +kernel) (by decide +kernel)
theorem km_LA_38 : Cond.methodLink "PlaceTestsLaw" 38 y_PT_draw ∈ wsG := wg 405 (by decide +kernel) (by decide +kernel)
theorem ki_PT_draw : Cond.instanceMethod y_PT_draw ∈ wsG := wg 406 (by decide +kernel) (by decide +kernel)
theorem kv_PT_draw : Cond.selects "PlaceTests" y_PT_draw y_PT_draw ∈ wsG := wg 407 (by decide +kernel) (by decide +kernel)
theorem km_PT_202 : Cond.methodLinkNest "PlaceTests" 202 y_FR_has "PlaceTests" ∈ wsG := wg 409 (by decide +kernel) (by decide +kernel)
theorem ki_FR_has : Cond.instanceMethod y_FR_has ∈ wsG := wg 411 (by decide +kernel) (by decide +kernel)
theorem km_PT_205 : Cond.methodLinkNest "PlaceTests" 205 y_CO_ofFixed "PlaceTests" ∈ wsG := wg 413 (by decide +kernel) (by decide +kernel)
theorem ks_CO_ofFixed : Cond.static y_CO_ofFixed ∈ wsG := wg 414 (by decide +kernel) (by decide +kernel)
theorem km_CO_11 : Cond.methodLink "PlaceTests$Colour" 11 y_CO_byteOf ∈ wsG := wg 416 (by decide +kernel) (by decide +kernel)
theorem ks_CO_byteOf : Cond.static y_CO_byteOf ∈ wsG := wg 417 (by decide +kernel) (by decide +kernel)
theorem kc_CO_19 : Cond.constant "PlaceTests$Colour" 19 65536 ∈ wsG := wg 419 (by decide +kernel) (by decide +kernel)
theorem km_CO_20 : Cond.methodLink "PlaceTests$Colour" 20 Lib.Math.min.name ∈ wsG := wg 420 (by decide +kernel) (by decide +kernel)
theorem km_CO_26 : Cond.methodLink "PlaceTests$Colour" 26 Lib.Math.max.name ∈ wsG := wg 421 (by decide +kernel) (by decide +kernel)
theorem kc_CO_29 : Cond.constant "PlaceTests$Colour" 29 32768 ∈ wsG := wg 422 (by decide +kernel) (by decide +kernel)
theorem km_CO_15 : Cond.methodLink "PlaceTests$Colour" 15 y_CO_packed ∈ wsG := wg 423 (by decide +kernel) (by decide +kernel)
theorem ks_CO_packed : Cond.static y_CO_packed ∈ wsG := wg 424 (by decide +kernel) (by decide +kernel)
theorem km_PT_209 : Cond.methodLink "PlaceTests" 209 y_PT_drawOpen ∈ wsG := wg 426 (by decide +kernel) (by decide +kernel)
theorem ki_PT_drawOpen : Cond.instanceMethod y_PT_drawOpen ∈ wsG := wg 428 (by decide +kernel) (by decide +kernel)
theorem km_PT_232 : Cond.methodLinkNest "PlaceTests" 232 y_ST_allows "PlaceTests" ∈ wsG := wg 430 (by decide +kernel) (by decide +kernel)
theorem ki_ST_allows : Cond.instanceMethod y_ST_allows ∈ wsG := wg 432 (by decide +kernel) (by decide +kernel)
theorem km_ST_21 : Cond.methodLinkNest "PlaceTests$StencilRule" 21 y_PT_compares "PlaceTests" ∈ wsG := wg 434 (by decide +kernel) (by decide +kernel)
theorem ks_PT_compares : Cond.static y_PT_compares ∈ wsG := wg 435 (by decide +kernel) (by decide +kernel)
theorem km_PT_235 : Cond.methodLinkNest "PlaceTests" 235 y_ST_changed "PlaceTests" ∈ wsG := wg 437 (by decide +kernel) (by decide +kernel)
theorem ki_ST_changed : Cond.instanceMethod y_ST_changed ∈ wsG := wg 439 (by decide +kernel) (by decide +kernel)
theorem km_ST_25 : Cond.methodLink "PlaceTests$StencilRule" 25 y_ST_afterDeed ∈ wsG := wg 441 (by decide +kernel) (by decide +kernel)
theorem ki_ST_afterDeed : Cond.instanceMethod y_ST_afterDeed ∈ wsG := wg 443 (by decide +kernel) (by decide +kernel)
theorem km_ST_36 : Cond.methodLink "PlaceTests$StencilRule" 36 Lib.Math.min.name ∈ wsG := wg 445 (by decide +kernel) (by decide +kernel)
theorem km_ST_41 : Cond.methodLink "PlaceTests$StencilRule" 41 Lib.Math.max.name ∈ wsG := wg 446 (by decide +kernel) (by decide +kernel)
theorem km_ST_32 : Cond.methodLinkNest "PlaceTests$StencilRule" 32 y_PT_merged "PlaceTests" ∈ wsG := wg 447 (by decide +kernel) (by decide +kernel)
theorem km_PT_241 : Cond.methodLink "PlaceTests" 241 y_PT_compares ∈ wsG := wg 448 (by decide +kernel) (by decide +kernel)
theorem km_PT_247 : Cond.methodLink "PlaceTests" 247 y_PT_newColour ∈ wsG := wg 449 (by decide +kernel) (by decide +kernel)
theorem ki_PT_newColour : Cond.instanceMethod y_PT_newColour ∈ wsG := wg 451 (by decide +kernel) (by decide +kernel)
theorem km_PT_254 : Cond.methodLinkNest "PlaceTests" 254 y_CO_byLogic "PlaceTests" ∈ wsG := wg 453 (by decide +kernel) (by decide +kernel)
theorem ks_CO_byLogic : Cond.static y_CO_byLogic ∈ wsG := wg 454 (by decide +kernel) (by decide +kernel)
theorem km_PT_257 : Cond.methodLinkNest "PlaceTests" 257 y_BL_blended "PlaceTests" ∈ wsG := wg 456 (by decide +kernel) (by decide +kernel)
theorem ki_BL_blended : Cond.instanceMethod y_BL_blended ∈ wsG := wg 458 (by decide +kernel) (by decide +kernel)
theorem km_BL_17 : Cond.methodLink "PlaceTests$Blending" 17 y_BL_blendedChannel ∈ wsG := wg 460 (by decide +kernel) (by decide +kernel)
theorem ki_BL_blendedChannel : Cond.instanceMethod y_BL_blendedChannel ∈ wsG := wg 462 (by decide +kernel) (by decide +kernel)
theorem km_BL_21 : Cond.methodLinkNest "PlaceTests$Blending" 21 y_CO_channel "PlaceTests" ∈ wsG := wg 464 (by decide +kernel) (by decide +kernel)
theorem ks_CO_channel : Cond.static y_CO_channel ∈ wsG := wg 465 (by decide +kernel) (by decide +kernel)
theorem km_BL_31 : Cond.methodLink "PlaceTests$Blending" 31 y_BL_factor ∈ wsG := wg 467 (by decide +kernel) (by decide +kernel)
theorem ki_BL_factor : Cond.instanceMethod y_BL_factor ∈ wsG := wg 469 (by decide +kernel) (by decide +kernel)
theorem km_BL_48 : Cond.methodLink "PlaceTests$Blending" 48 Lib.Math.min.name ∈ wsG := wg 471 (by decide +kernel) (by decide +kernel)
theorem km_BL_44 : Cond.methodLink "PlaceTests$Blending" 44 y_BL_byteOfWeighted ∈ wsG := wg 472 (by decide +kernel) (by decide +kernel)
theorem ks_BL_byteOfWeighted : Cond.static y_BL_byteOfWeighted ∈ wsG := wg 473 (by decide +kernel) (by decide +kernel)
theorem km_BL_53 : Cond.methodLink "PlaceTests$Blending" 53 Lib.Math.max.name ∈ wsG := wg 475 (by decide +kernel) (by decide +kernel)
theorem km_LA_104 : Cond.methodLink "PlaceTestsLaw" 104 y_LA_at ∈ wsG := wg 476 (by decide +kernel) (by decide +kernel)
theorem ks_LA_at : Cond.static y_LA_at ∈ wsG := wg 477 (by decide +kernel) (by decide +kernel)
theorem kk_LA_46 : Cond.classLink "PlaceTestsLaw" 46 "java/lang/IndexOutOfBoundsException" ∈ wsG := wg 479 (by decide +kernel) (by decide +kernel)
theorem km_LA_42 : Cond.methodLink "PlaceTestsLaw" 42 y_PT_at ∈ wsG := wg 480 (by decide +kernel) (by decide +kernel)
theorem ki_PT_at : Cond.instanceMethod y_PT_at ∈ wsG := wg 481 (by decide +kernel) (by decide +kernel)
theorem kv_PT_at : Cond.selects "PlaceTests" y_PT_at y_PT_at ∈ wsG := wg 482 (by decide +kernel) (by decide +kernel)
theorem kk_PT_215 : Cond.classLink "PlaceTests" 215 "java/lang/IndexOutOfBoundsException" ∈ wsG := wg 485 (by decide +kernel) (by decide +kernel)
theorem km_PT_220 : Cond.methodLinkNest "PlaceTests" 220 y_FR_rowsOf "PlaceTests" ∈ wsG := wg 501 (by decide +kernel) (by decide +kernel)
theorem ki_FR_rowsOf : Cond.instanceMethod y_FR_rowsOf ∈ wsG := wg 503 (by decide +kernel) (by decide +kernel)
theorem km_LA_108 : Cond.methodLink "PlaceTestsLaw" 108 y_LA_drawn ∈ wsG := wg 505 (by decide +kernel) (by decide +kernel)
theorem ks_LA_drawn : Cond.static y_LA_drawn ∈ wsG := wg 506 (by decide +kernel) (by decide +kernel)
theorem km_LA_48 : Cond.methodLink "PlaceTestsLaw" 48 y_PT_drawn ∈ wsG := wg 508 (by decide +kernel) (by decide +kernel)
theorem ki_PT_drawn : Cond.instanceMethod y_PT_drawn ∈ wsG := wg 509 (by decide +kernel) (by decide +kernel)
theorem kv_PT_drawn : Cond.selects "PlaceTests" y_PT_drawn y_PT_drawn ∈ wsG := wg 510 (by decide +kernel) (by decide +kernel)
theorem km_LA_112 : Cond.methodLink "PlaceTestsLaw" 112 y_LA_sum ∈ wsG := wg 513 (by decide +kernel) (by decide +kernel)
theorem ks_LA_sum : Cond.static y_LA_sum ∈ wsG := wg 514 (by decide +kernel) (by decide +kernel)
theorem km_LA_52 : Cond.methodLink "PlaceTestsLaw" 52 y_PT_sum ∈ wsG := wg 516 (by decide +kernel) (by decide +kernel)
theorem ki_PT_sum : Cond.instanceMethod y_PT_sum ∈ wsG := wg 517 (by decide +kernel) (by decide +kernel)
theorem kv_PT_sum : Cond.selects "PlaceTests" y_PT_sum y_PT_sum ∈ wsG := wg 518 (by decide +kernel) (by decide +kernel)
theorem kk_LA_56 : Cond.classLink "PlaceTestsLaw" 56 "PlaceTestsModel" ∈ wsG := wg 520 (by decide +kernel) (by decide +kernel)
theorem kt_MO : Cond.instantiable "PlaceTestsModel" 22 ∈ wsG := wg 521 (by decide +kernel) (by decide +kernel)
theorem km_LA_58 : Cond.methodLink "PlaceTestsLaw" 58 y_MO_init ∈ wsG := wg 522 (by decide +kernel) (by decide +kernel)
theorem ki_MO_init : Cond.instanceMethod y_MO_init ∈ wsG := wg 523 (by decide +kernel) (by decide +kernel)
theorem km_MO_1 : Cond.methodLink "PlaceTestsModel" 1 Lib.objectInit ∈ wsG := wg 525 (by decide +kernel) (by decide +kernel)
theorem kf_MO_59 : Cond.fieldLink "PlaceTestsModel" 59 "PlaceTestsModel" "thrown" "I" ∈ wsG := wg 526 (by decide +kernel) (by decide +kernel)
theorem kf_MO_70 : Cond.fieldLink "PlaceTestsModel" 70 "PlaceTestsModel" "x0" "I" ∈ wsG := wg 527 (by decide +kernel) (by decide +kernel)
theorem kf_MO_73 : Cond.fieldLink "PlaceTestsModel" 73 "PlaceTestsModel" "y0" "I" ∈ wsG := wg 528 (by decide +kernel) (by decide +kernel)
theorem kf_MO_7 : Cond.fieldLink "PlaceTestsModel" 7 "PlaceTestsModel" "wide" "I" ∈ wsG := wg 529 (by decide +kernel) (by decide +kernel)
theorem kf_MO_13 : Cond.fieldLink "PlaceTestsModel" 13 "PlaceTestsModel" "high" "I" ∈ wsG := wg 530 (by decide +kernel) (by decide +kernel)
theorem kf_MO_16 : Cond.fieldLink "PlaceTestsModel" 16 "PlaceTestsModel" "channels" "[I" ∈ wsG := wg 531 (by decide +kernel) (by decide +kernel)
theorem kf_MO_20 : Cond.fieldLink "PlaceTestsModel" 20 "PlaceTestsModel" "depths" "[I" ∈ wsG := wg 532 (by decide +kernel) (by decide +kernel)
theorem kf_MO_23 : Cond.fieldLink "PlaceTestsModel" 23 "PlaceTestsModel" "stencils" "[I" ∈ wsG := wg 533 (by decide +kernel) (by decide +kernel)
theorem kf_MO_76 : Cond.fieldLink "PlaceTestsModel" 76 "PlaceTestsModel" "scissored" "Z" ∈ wsG := wg 534 (by decide +kernel) (by decide +kernel)
theorem kf_MO_26 : Cond.fieldLink "PlaceTestsModel" 26 "PlaceTestsModel" "scissor" "[I" ∈ wsG := wg 535 (by decide +kernel) (by decide +kernel)
theorem kf_MO_29 : Cond.fieldLink "PlaceTestsModel" 29 "PlaceTestsModel" "depthTest" "I" ∈ wsG := wg 536 (by decide +kernel) (by decide +kernel)
theorem kf_MO_80 : Cond.fieldLink "PlaceTestsModel" 80 "PlaceTestsModel" "depthWritten" "Z" ∈ wsG := wg 537 (by decide +kernel) (by decide +kernel)
theorem kf_MO_32 : Cond.fieldLink "PlaceTestsModel" 32 "PlaceTestsModel" "stencil" "[I" ∈ wsG := wg 538 (by decide +kernel) (by decide +kernel)
theorem kf_MO_35 : Cond.fieldLink "PlaceTestsModel" 35 "PlaceTestsModel" "factors" "[I" ∈ wsG := wg 539 (by decide +kernel) (by decide +kernel)
theorem kf_MO_38 : Cond.fieldLink "PlaceTestsModel" 38 "PlaceTestsModel" "equation" "I" ∈ wsG := wg 540 (by decide +kernel) (by decide +kernel)
theorem kf_MO_83 : Cond.fieldLink "PlaceTestsModel" 83 "PlaceTestsModel" "equationA" "I" ∈ wsG := wg 541 (by decide +kernel) (by decide +kernel)
theorem kf_MO_41 : Cond.fieldLink "PlaceTestsModel" 41 "PlaceTestsModel" "constant" "[I" ∈ wsG := wg 542 (by decide +kernel) (by decide +kernel)
theorem kf_MO_44 : Cond.fieldLink "PlaceTestsModel" 44 "PlaceTestsModel" "logic" "I" ∈ wsG := wg 543 (by decide +kernel) (by decide +kernel)
theorem kf_MO_47 : Cond.fieldLink "PlaceTestsModel" 47 "PlaceTestsModel" "mask" "I" ∈ wsG := wg 544 (by decide +kernel) (by decide +kernel)
theorem kf_MO_50 : Cond.fieldLink "PlaceTestsModel" 50 "PlaceTestsModel" "answers" "[I" ∈ wsG := wg 545 (by decide +kernel) (by decide +kernel)
theorem kf_MO_53 : Cond.fieldLink "PlaceTestsModel" 53 "PlaceTestsModel" "s" "[I" ∈ wsG := wg 546 (by decide +kernel) (by decide +kernel)
theorem kf_MO_56 : Cond.fieldLink "PlaceTestsModel" 56 "PlaceTestsModel" "d" "[I" ∈ wsG := wg 547 (by decide +kernel) (by decide +kernel)
theorem km_LA_65 : Cond.methodLink "PlaceTestsLaw" 65 y_MO_thrown ∈ wsG := wg 593 (by decide +kernel) (by decide +kernel)
theorem ki_MO_thrown : Cond.instanceMethod y_MO_thrown ∈ wsG := wg 594 (by decide +kernel) (by decide +kernel)
theorem kv_MO_thrown : Cond.selects "PlaceTestsModel" y_MO_thrown y_MO_thrown ∈ wsG := wg 595 (by decide +kernel) (by decide +kernel)
theorem km_LA_64 : Cond.methodLink "PlaceTestsLaw" 64 y_MO_frame ∈ wsG := wg 597 (by decide +kernel) (by decide +kernel)
theorem ki_MO_frame : Cond.instanceMethod y_MO_frame ∈ wsG := wg 598 (by decide +kernel) (by decide +kernel)
theorem kv_MO_frame : Cond.selects "PlaceTestsModel" y_MO_frame y_MO_frame ∈ wsG := wg 599 (by decide +kernel) (by decide +kernel)
theorem km_MO_62 : Cond.methodLink "PlaceTestsModel" 62 y_MO_in ∈ wsG := wg 601 (by decide +kernel) (by decide +kernel)
theorem ks_MO_in : Cond.static y_MO_in ∈ wsG := wg 602 (by decide +kernel) (by decide +kernel)
theorem km_MO_66 : Cond.methodLink "PlaceTestsModel" 66 y_MO_refuse ∈ wsG := wg 604 (by decide +kernel) (by decide +kernel)
theorem ki_MO_refuse : Cond.instanceMethod y_MO_refuse ∈ wsG := wg 606 (by decide +kernel) (by decide +kernel)
theorem km_LA_72 : Cond.methodLink "PlaceTestsLaw" 72 y_MO_scissors ∈ wsG := wg 608 (by decide +kernel) (by decide +kernel)
theorem ki_MO_scissors : Cond.instanceMethod y_MO_scissors ∈ wsG := wg 609 (by decide +kernel) (by decide +kernel)
theorem kv_MO_scissors : Cond.selects "PlaceTestsModel" y_MO_scissors y_MO_scissors ∈ wsG := wg 610 (by decide +kernel) (by decide +kernel)
theorem km_LA_76 : Cond.methodLink "PlaceTestsLaw" 76 y_MO_depth ∈ wsG := wg 612 (by decide +kernel) (by decide +kernel)
theorem ki_MO_depth : Cond.instanceMethod y_MO_depth ∈ wsG := wg 613 (by decide +kernel) (by decide +kernel)
theorem kv_MO_depth : Cond.selects "PlaceTestsModel" y_MO_depth y_MO_depth ∈ wsG := wg 614 (by decide +kernel) (by decide +kernel)
theorem km_LA_80 : Cond.methodLink "PlaceTestsLaw" 80 y_MO_stencil ∈ wsG := wg 616 (by decide +kernel) (by decide +kernel)
theorem ki_MO_stencil : Cond.instanceMethod y_MO_stencil ∈ wsG := wg 617 (by decide +kernel) (by decide +kernel)
theorem kv_MO_stencil : Cond.selects "PlaceTestsModel" y_MO_stencil y_MO_stencil ∈ wsG := wg 618 (by decide +kernel) (by decide +kernel)
theorem km_LA_84 : Cond.methodLink "PlaceTestsLaw" 84 y_MO_blend ∈ wsG := wg 620 (by decide +kernel) (by decide +kernel)
theorem ki_MO_blend : Cond.instanceMethod y_MO_blend ∈ wsG := wg 621 (by decide +kernel) (by decide +kernel)
theorem kv_MO_blend : Cond.selects "PlaceTestsModel" y_MO_blend y_MO_blend ∈ wsG := wg 622 (by decide +kernel) (by decide +kernel)
theorem km_LA_88 : Cond.methodLink "PlaceTestsLaw" 88 y_MO_constant ∈ wsG := wg 624 (by decide +kernel) (by decide +kernel)
theorem ki_MO_constant : Cond.instanceMethod y_MO_constant ∈ wsG := wg 625 (by decide +kernel) (by decide +kernel)
theorem kv_MO_constant : Cond.selects "PlaceTestsModel" y_MO_constant y_MO_constant ∈ wsG := wg 626 (by decide +kernel) (by decide +kernel)
theorem km_LA_92 : Cond.methodLink "PlaceTestsLaw" 92 y_MO_logic ∈ wsG := wg 628 (by decide +kernel) (by decide +kernel)
theorem ki_MO_logic : Cond.instanceMethod y_MO_logic ∈ wsG := wg 629 (by decide +kernel) (by decide +kernel)
theorem kv_MO_logic : Cond.selects "PlaceTestsModel" y_MO_logic y_MO_logic ∈ wsG := wg 630 (by decide +kernel) (by decide +kernel)
theorem km_LA_95 : Cond.methodLink "PlaceTestsLaw" 95 y_MO_mask ∈ wsG := wg 632 (by decide +kernel) (by decide +kernel)
theorem ki_MO_mask : Cond.instanceMethod y_MO_mask ∈ wsG := wg 633 (by decide +kernel) (by decide +kernel)
theorem kv_MO_mask : Cond.selects "PlaceTestsModel" y_MO_mask y_MO_mask ∈ wsG := wg 634 (by decide +kernel) (by decide +kernel)
theorem km_LA_99 : Cond.methodLink "PlaceTestsLaw" 99 y_MO_clear ∈ wsG := wg 636 (by decide +kernel) (by decide +kernel)
theorem ki_MO_clear : Cond.instanceMethod y_MO_clear ∈ wsG := wg 637 (by decide +kernel) (by decide +kernel)
theorem kv_MO_clear : Cond.selects "PlaceTestsModel" y_MO_clear y_MO_clear ∈ wsG := wg 638 (by decide +kernel) (by decide +kernel)
theorem kc_MO_90 : Cond.constant "PlaceTestsModel" 90 16777215 ∈ wsG := wg 640 (by decide +kernel) (by decide +kernel)
theorem km_MO_91 : Cond.methodLink "PlaceTestsModel" 91 y_MO_isOpen ∈ wsG := wg 641 (by decide +kernel) (by decide +kernel)
theorem ki_MO_isOpen : Cond.instanceMethod y_MO_isOpen ∈ wsG := wg 643 (by decide +kernel) (by decide +kernel)
theorem km_MO_86 : Cond.methodLink "PlaceTestsModel" 86 y_MO_isInFrame ∈ wsG := wg 645 (by decide +kernel) (by decide +kernel)
theorem ki_MO_isInFrame : Cond.instanceMethod y_MO_isInFrame ∈ wsG := wg 647 (by decide +kernel) (by decide +kernel)
theorem km_MO_94 : Cond.methodLink "PlaceTestsModel" 94 y_MO_placeOf ∈ wsG := wg 649 (by decide +kernel) (by decide +kernel)
theorem ki_MO_placeOf : Cond.instanceMethod y_MO_placeOf ∈ wsG := wg 651 (by decide +kernel) (by decide +kernel)
theorem km_MO_98 : Cond.methodLink "PlaceTestsModel" 98 y_MO_writeStencil ∈ wsG := wg 653 (by decide +kernel) (by decide +kernel)
theorem ki_MO_writeStencil : Cond.instanceMethod y_MO_writeStencil ∈ wsG := wg 655 (by decide +kernel) (by decide +kernel)
theorem km_LA_103 : Cond.methodLink "PlaceTestsLaw" 103 y_MO_draw ∈ wsG := wg 657 (by decide +kernel) (by decide +kernel)
theorem ki_MO_draw : Cond.instanceMethod y_MO_draw ∈ wsG := wg 658 (by decide +kernel) (by decide +kernel)
theorem kv_MO_draw : Cond.selects "PlaceTestsModel" y_MO_draw y_MO_draw ∈ wsG := wg 659 (by decide +kernel) (by decide +kernel)
theorem km_MO_115 : Cond.methodLink "PlaceTestsModel" 115 y_MO_answer ∈ wsG := wg 661 (by decide +kernel) (by decide +kernel)
theorem ki_MO_answer : Cond.instanceMethod y_MO_answer ∈ wsG := wg 663 (by decide +kernel) (by decide +kernel)
theorem km_MO_118 : Cond.methodLink "PlaceTestsModel" 118 y_MO_holds ∈ wsG := wg 665 (by decide +kernel) (by decide +kernel)
theorem ks_MO_holds : Cond.static y_MO_holds ∈ wsG := wg 666 (by decide +kernel) (by decide +kernel)
theorem km_MO_121 : Cond.methodLink "PlaceTestsModel" 121 y_MO_act ∈ wsG := wg 668 (by decide +kernel) (by decide +kernel)
theorem ki_MO_act : Cond.instanceMethod y_MO_act ∈ wsG := wg 670 (by decide +kernel) (by decide +kernel)
theorem km_MO_102 : Cond.methodLink "PlaceTestsModel" 102 y_MO_deed ∈ wsG := wg 672 (by decide +kernel) (by decide +kernel)
theorem ks_MO_deed : Cond.static y_MO_deed ∈ wsG := wg 673 (by decide +kernel) (by decide +kernel)
theorem km_MO_124 : Cond.methodLink "PlaceTestsModel" 124 y_MO_byteOf ∈ wsG := wg 675 (by decide +kernel) (by decide +kernel)
theorem ks_MO_byteOf : Cond.static y_MO_byteOf ∈ wsG := wg 676 (by decide +kernel) (by decide +kernel)
theorem kc_MO_106 : Cond.constant "PlaceTestsModel" 106 65536 ∈ wsG := wg 678 (by decide +kernel) (by decide +kernel)
theorem kc_MO_107 : Cond.constant "PlaceTestsModel" 107 32768 ∈ wsG := wg 679 (by decide +kernel) (by decide +kernel)
theorem km_MO_127 : Cond.methodLink "PlaceTestsModel" 127 y_MO_bits ∈ wsG := wg 680 (by decide +kernel) (by decide +kernel)
theorem ki_MO_bits : Cond.instanceMethod y_MO_bits ∈ wsG := wg 682 (by decide +kernel) (by decide +kernel)
theorem km_MO_130 : Cond.methodLink "PlaceTestsModel" 130 y_MO_blended ∈ wsG := wg 684 (by decide +kernel) (by decide +kernel)
theorem ki_MO_blended : Cond.instanceMethod y_MO_blended ∈ wsG := wg 686 (by decide +kernel) (by decide +kernel)
theorem km_MO_108 : Cond.methodLink "PlaceTestsModel" 108 y_MO_factor ∈ wsG := wg 688 (by decide +kernel) (by decide +kernel)
theorem ki_MO_factor : Cond.instanceMethod y_MO_factor ∈ wsG := wg 690 (by decide +kernel) (by decide +kernel)
theorem km_MO_111 : Cond.methodLink "PlaceTestsModel" 111 y_MO_nearest ∈ wsG := wg 692 (by decide +kernel) (by decide +kernel)
theorem ks_MO_nearest : Cond.static y_MO_nearest ∈ wsG := wg 693 (by decide +kernel) (by decide +kernel)
theorem km_LA_107 : Cond.methodLink "PlaceTestsLaw" 107 y_MO_at ∈ wsG := wg 695 (by decide +kernel) (by decide +kernel)
theorem ki_MO_at : Cond.instanceMethod y_MO_at ∈ wsG := wg 696 (by decide +kernel) (by decide +kernel)
theorem kv_MO_at : Cond.selects "PlaceTestsModel" y_MO_at y_MO_at ∈ wsG := wg 697 (by decide +kernel) (by decide +kernel)
theorem km_MO_133 : Cond.methodLink "PlaceTestsModel" 133 y_MO_show ∈ wsG := wg 699 (by decide +kernel) (by decide +kernel)
theorem ki_MO_show : Cond.instanceMethod y_MO_show ∈ wsG := wg 701 (by decide +kernel) (by decide +kernel)
theorem km_LA_111 : Cond.methodLink "PlaceTestsLaw" 111 y_MO_drawn ∈ wsG := wg 703 (by decide +kernel) (by decide +kernel)
theorem ki_MO_drawn : Cond.instanceMethod y_MO_drawn ∈ wsG := wg 704 (by decide +kernel) (by decide +kernel)
theorem kv_MO_drawn : Cond.selects "PlaceTestsModel" y_MO_drawn y_MO_drawn ∈ wsG := wg 705 (by decide +kernel) (by decide +kernel)
theorem km_LA_114 : Cond.methodLink "PlaceTestsLaw" 114 y_MO_sum ∈ wsG := wg 707 (by decide +kernel) (by decide +kernel)
theorem ki_MO_sum : Cond.instanceMethod y_MO_sum ∈ wsG := wg 708 (by decide +kernel) (by decide +kernel)
theorem kv_MO_sum : Cond.selects "PlaceTestsModel" y_MO_sum y_MO_sum ∈ wsG := wg 709 (by decide +kernel) (by decide +kernel)
theorem kv_FR_begin : Cond.selects "PlaceTests$Frame" y_FR_begin y_FR_begin ∈ wsG := wg 1 (by decide +kernel) (by decide +kernel)
theorem kv_PT_ruleOf : Cond.selects "PlaceTests" y_PT_ruleOf y_PT_ruleOf ∈ wsG := wg 2 (by decide +kernel) (by decide +kernel)
theorem kv_SC_hold : Cond.selects "PlaceTests$Scissors" y_SC_hold y_SC_hold ∈ wsG := wg 3 (by decide +kernel) (by decide +kernel)
theorem kv_FR_indexOf : Cond.selects "PlaceTests$Frame" y_FR_indexOf y_FR_indexOf ∈ wsG := wg 4 (by decide +kernel) (by decide +kernel)
theorem kv_PT_clearPlace : Cond.selects "PlaceTests" y_PT_clearPlace y_PT_clearPlace ∈ wsG := wg 5 (by decide +kernel) (by decide +kernel)
theorem kv_FR_has : Cond.selects "PlaceTests$Frame" y_FR_has y_FR_has ∈ wsG := wg 6 (by decide +kernel) (by decide +kernel)
theorem kv_PT_drawOpen : Cond.selects "PlaceTests" y_PT_drawOpen y_PT_drawOpen ∈ wsG := wg 7 (by decide +kernel) (by decide +kernel)
theorem kv_ST_allows : Cond.selects "PlaceTests$StencilRule" y_ST_allows y_ST_allows ∈ wsG := wg 8 (by decide +kernel) (by decide +kernel)
theorem kv_ST_changed : Cond.selects "PlaceTests$StencilRule" y_ST_changed y_ST_changed ∈ wsG := wg 9 (by decide +kernel) (by decide +kernel)
theorem kv_ST_afterDeed : Cond.selects "PlaceTests$StencilRule" y_ST_afterDeed y_ST_afterDeed ∈ wsG := wg 10 (by decide +kernel) (by decide +kernel)
theorem kv_PT_newColour : Cond.selects "PlaceTests" y_PT_newColour y_PT_newColour ∈ wsG := wg 11 (by decide +kernel) (by decide +kernel)
theorem kv_BL_blended : Cond.selects "PlaceTests$Blending" y_BL_blended y_BL_blended ∈ wsG := wg 12 (by decide +kernel) (by decide +kernel)
theorem kv_BL_blendedChannel : Cond.selects "PlaceTests$Blending" y_BL_blendedChannel y_BL_blendedChannel ∈ wsG := wg 13 (by decide +kernel) (by decide +kernel)
theorem kv_BL_factor : Cond.selects "PlaceTests$Blending" y_BL_factor y_BL_factor ∈ wsG := wg 14 (by decide +kernel) (by decide +kernel)
theorem kv_FR_rowsOf : Cond.selects "PlaceTests$Frame" y_FR_rowsOf y_FR_rowsOf ∈ wsG := wg 15 (by decide +kernel) (by decide +kernel)
theorem kv_MO_refuse : Cond.selects "PlaceTestsModel" y_MO_refuse y_MO_refuse ∈ wsG := wg 16 (by decide +kernel) (by decide +kernel)
theorem kv_MO_isOpen : Cond.selects "PlaceTestsModel" y_MO_isOpen y_MO_isOpen ∈ wsG := wg 17 (by decide +kernel) (by decide +kernel)
theorem kv_MO_isInFrame : Cond.selects "PlaceTestsModel" y_MO_isInFrame y_MO_isInFrame ∈ wsG := wg 18 (by decide +kernel) (by decide +kernel)
theorem kv_MO_placeOf : Cond.selects "PlaceTestsModel" y_MO_placeOf y_MO_placeOf ∈ wsG := wg 19 (by decide +kernel) (by decide +kernel)
theorem kv_MO_writeStencil : Cond.selects "PlaceTestsModel" y_MO_writeStencil y_MO_writeStencil ∈ wsG := wg 20 (by decide +kernel) (by decide +kernel)
theorem kv_MO_answer : Cond.selects "PlaceTestsModel" y_MO_answer y_MO_answer ∈ wsG := wg 21 (by decide +kernel) (by decide +kernel)
theorem kv_MO_act : Cond.selects "PlaceTestsModel" y_MO_act y_MO_act ∈ wsG := wg 22 (by decide +kernel) (by decide +kernel)
theorem kv_MO_bits : Cond.selects "PlaceTestsModel" y_MO_bits y_MO_bits ∈ wsG := wg 23 (by decide +kernel) (by decide +kernel)
theorem kv_MO_blended : Cond.selects "PlaceTestsModel" y_MO_blended y_MO_blended ∈ wsG := wg 24 (by decide +kernel) (by decide +kernel)
theorem kv_MO_factor : Cond.selects "PlaceTestsModel" y_MO_factor y_MO_factor ∈ wsG := wg 25 (by decide +kernel) (by decide +kernel)
theorem kv_MO_show : Cond.selects "PlaceTestsModel" y_MO_show y_MO_show ∈ wsG := wg 26 (by decide +kernel) (by decide +kernel)
theorem kb_PT_init : Cond.code y_PT_init prog_1_method_1_code 1 none ∈ wsG := wg 45 (by decide +kernel) (by decide +kernel)
theorem kb_FR_init : Cond.code y_FR_init prog_4_method_1_code 2 none ∈ wsG := wg 53 (by decide +kernel) (by decide +kernel)
theorem kb_SC_init : Cond.code y_SC_init prog_5_method_1_code 1 none ∈ wsG := wg 103 (by decide +kernel) (by decide +kernel)
theorem kb_ST_init : Cond.code y_ST_init prog_6_method_1_code 1 none ∈ wsG := wg 126 (by decide +kernel) (by decide +kernel)
theorem kb_BL_init : Cond.code y_BL_init prog_2_method_1_code 1 none ∈ wsG := wg 158 (by decide +kernel) (by decide +kernel)
theorem kb_PT_scissors : Cond.code y_PT_scissors prog_1_method_3_code 5 none ∈ wsG := wg 223 (by decide +kernel) (by decide +kernel)
theorem kb_PT_constant : Cond.code y_PT_constant prog_1_method_7_code 2 none ∈ wsG := wg 227 (by decide +kernel) (by decide +kernel)
theorem kb_LA_frame : Cond.codeWith y_LA_frame method_3_code 6 (some .int) [(0, 9, 12, 13)] ∈ wsG := wg 230 (by decide +kernel) (by decide +kernel)
theorem kb_PT_frame : Cond.code y_PT_frame prog_1_method_2_code 5 none ∈ wsG := wg 235 (by decide +kernel) (by decide +kernel)
theorem kb_PT_isWithin : Cond.code y_PT_isWithin prog_1_method_19_code 3 (some .boolean) ∈ wsG := wg 238 (by decide +kernel) (by decide +kernel)
theorem kb_FR_begin : Cond.code y_FR_begin prog_4_method_2_code 6 none ∈ wsG := wg 310 (by decide +kernel) (by decide +kernel)
theorem kb_LA_depth : Cond.codeWith y_LA_depth method_4_code 4 (some .int) [(0, 6, 9, 13)] ∈ wsG := wg 313 (by decide +kernel) (by decide +kernel)
theorem kb_PT_depth : Cond.code y_PT_depth prog_1_method_4_code 3 none ∈ wsG := wg 317 (by decide +kernel) (by decide +kernel)
theorem kb_LA_stencil : Cond.codeWith y_LA_stencil method_5_code 10 (some .int) [(0, 17, 20, 13)] ∈ wsG := wg 321 (by decide +kernel) (by decide +kernel)
theorem kb_PT_stencil : Cond.code y_PT_stencil prog_1_method_5_code 10 none ∈ wsG := wg 325 (by decide +kernel) (by decide +kernel)
theorem kb_PT_isSide : Cond.code y_PT_isSide prog_1_method_22_code 1 (some .boolean) ∈ wsG := wg 328 (by decide +kernel) (by decide +kernel)
theorem kb_PT_ruleOf : Cond.code y_PT_ruleOf prog_1_method_18_code 2 (some (.object "PlaceTests$StencilRule")) ∈ wsG := wg 333 (by decide +kernel) (by decide +kernel)
theorem kb_PT_isByte : Cond.code y_PT_isByte prog_1_method_20_code 1 (some .boolean) ∈ wsG := wg 336 (by decide +kernel) (by decide +kernel)
theorem kb_PT_isDeed : Cond.code y_PT_isDeed prog_1_method_23_code 1 (some .boolean) ∈ wsG := wg 340 (by decide +kernel) (by decide +kernel)
theorem kb_LA_blend : Cond.codeWith y_LA_blend method_6_code 8 (some .int) [(0, 13, 16, 13)] ∈ wsG := wg 344 (by decide +kernel) (by decide +kernel)
theorem kb_PT_blend : Cond.code y_PT_blend prog_1_method_6_code 7 none ∈ wsG := wg 348 (by decide +kernel) (by decide +kernel)
theorem kb_PT_isFactor : Cond.code y_PT_isFactor prog_1_method_24_code 1 (some .boolean) ∈ wsG := wg 351 (by decide +kernel) (by decide +kernel)
theorem kb_LA_logic : Cond.codeWith y_LA_logic method_7_code 3 (some .int) [(0, 5, 8, 13)] ∈ wsG := wg 356 (by decide +kernel) (by decide +kernel)
theorem kb_PT_logic : Cond.code y_PT_logic prog_1_method_8_code 2 none ∈ wsG := wg 360 (by decide +kernel) (by decide +kernel)
theorem kb_LA_mask : Cond.codeWith y_LA_mask method_8_code 3 (some .int) [(0, 5, 8, 13)] ∈ wsG := wg 364 (by decide +kernel) (by decide +kernel)
theorem kb_PT_mask : Cond.code y_PT_mask prog_1_method_9_code 2 none ∈ wsG := wg 368 (by decide +kernel) (by decide +kernel)
theorem kb_CO_bitsOf : Cond.code y_CO_bitsOf prog_3_method_3_code 3 (some .int) ∈ wsG := wg 372 (by decide +kernel) (by decide +kernel)
theorem kb_LA_clear : Cond.codeWith y_LA_clear method_9_code 7 (some .int) [(0, 14, 17, 13)] ∈ wsG := wg 375 (by decide +kernel) (by decide +kernel)
theorem kb_PT_clear : Cond.code y_PT_clear prog_1_method_10_code 8 (some .int) ∈ wsG := wg 379 (by decide +kernel) (by decide +kernel)
theorem kb_PT_isDepth : Cond.code y_PT_isDepth prog_1_method_21_code 1 (some .boolean) ∈ wsG := wg 383 (by decide +kernel) (by decide +kernel)
theorem kb_SC_hold : Cond.code y_SC_hold prog_5_method_2_code 3 (some .boolean) ∈ wsG := wg 390 (by decide +kernel) (by decide +kernel)
theorem kb_FR_indexOf : Cond.code y_FR_indexOf prog_4_method_4_code 3 (some .int) ∈ wsG := wg 394 (by decide +kernel) (by decide +kernel)
theorem kb_PT_clearPlace : Cond.code y_PT_clearPlace prog_1_method_17_code 7 none ∈ wsG := wg 398 (by decide +kernel) (by decide +kernel)
theorem kb_PT_merged : Cond.code y_PT_merged prog_1_method_26_code 3 (some .int) ∈ wsG := wg 401 (by decide +kernel) (by decide +kernel)
theorem kb_LA_draw : Cond.codeWith y_LA_draw method_10_code 11 (some .int) [(0, 22, 25, 13)] ∈ wsG := wg 404 (by decide +kernel) (by decide +kernel)
theorem kb_PT_draw : Cond.code y_PT_draw prog_1_method_11_code 10 (some .int) ∈ wsG := wg 408 (by decide +kernel) (by decide +kernel)
theorem kb_FR_has : Cond.code y_FR_has prog_4_method_3_code 3 (some .boolean) ∈ wsG := wg 412 (by decide +kernel) (by decide +kernel)
theorem kb_CO_ofFixed : Cond.code y_CO_ofFixed prog_3_method_5_code 4 (some .int) ∈ wsG := wg 415 (by decide +kernel) (by decide +kernel)
theorem kb_CO_byteOf : Cond.code y_CO_byteOf prog_3_method_6_code 2 (some .int) ∈ wsG := wg 418 (by decide +kernel) (by decide +kernel)
theorem kb_CO_packed : Cond.code y_CO_packed prog_3_method_2_code 4 (some .int) ∈ wsG := wg 425 (by decide +kernel) (by decide +kernel)
theorem kb_PT_drawOpen : Cond.code y_PT_drawOpen prog_1_method_15_code 7 (some .int) ∈ wsG := wg 429 (by decide +kernel) (by decide +kernel)
theorem kb_ST_allows : Cond.code y_ST_allows prog_6_method_2_code 2 (some .boolean) ∈ wsG := wg 433 (by decide +kernel) (by decide +kernel)
theorem kb_PT_compares : Cond.code y_PT_compares prog_1_method_25_code 3 (some .boolean) ∈ wsG := wg 436 (by decide +kernel) (by decide +kernel)
theorem kb_ST_changed : Cond.code y_ST_changed prog_6_method_3_code 3 (some .int) ∈ wsG := wg 440 (by decide +kernel) (by decide +kernel)
theorem kb_ST_afterDeed : Cond.code y_ST_afterDeed prog_6_method_4_code 3 (some .int) ∈ wsG := wg 444 (by decide +kernel) (by decide +kernel)
theorem kb_PT_newColour : Cond.code y_PT_newColour prog_1_method_16_code 3 (some .int) ∈ wsG := wg 452 (by decide +kernel) (by decide +kernel)
theorem kb_CO_byLogic : Cond.code y_CO_byLogic prog_3_method_7_code 4 (some .int) ∈ wsG := wg 455 (by decide +kernel) (by decide +kernel)
theorem kb_BL_blended : Cond.code y_BL_blended prog_2_method_2_code 5 (some .int) ∈ wsG := wg 459 (by decide +kernel) (by decide +kernel)
theorem kb_BL_blendedChannel : Cond.code y_BL_blendedChannel prog_2_method_3_code 9 (some .int) ∈ wsG := wg 463 (by decide +kernel) (by decide +kernel)
theorem kb_CO_channel : Cond.code y_CO_channel prog_3_method_4_code 2 (some .int) ∈ wsG := wg 466 (by decide +kernel) (by decide +kernel)
theorem kb_BL_factor : Cond.code y_BL_factor prog_2_method_4_code 7 (some .int) ∈ wsG := wg 470 (by decide +kernel) (by decide +kernel)
theorem kb_BL_byteOfWeighted : Cond.code y_BL_byteOfWeighted prog_2_method_5_code 2 (some .int) ∈ wsG := wg 474 (by decide +kernel) (by decide +kernel)
theorem kb_LA_at : Cond.codeWith y_LA_at method_11_code 6 (some .int) [(0, 12, 15, 13), (0, 12, 19, 46)] ∈ wsG := wg 478 (by decide +kernel) (by decide +kernel)
theorem kb_PT_at : Cond.code y_PT_at prog_1_method_12_code 4 (some .int) ∈ wsG := wg 483 (by decide +kernel) (by decide +kernel)
theorem kb_FR_rowsOf : Cond.code y_FR_rowsOf prog_4_method_5_code 2 (some (.array .int)) ∈ wsG := wg 504 (by decide +kernel) (by decide +kernel)
theorem kb_LA_drawn : Cond.codeWith y_LA_drawn method_12_code 4 (some .int) [(0, 9, 12, 13)] ∈ wsG := wg 507 (by decide +kernel) (by decide +kernel)
theorem kb_PT_drawn : Cond.code y_PT_drawn prog_1_method_13_code 2 (some .int) ∈ wsG := wg 511 (by decide +kernel) (by decide +kernel)
theorem kb_LA_sum : Cond.codeWith y_LA_sum method_13_code 4 (some .int) [(0, 9, 12, 13)] ∈ wsG := wg 515 (by decide +kernel) (by decide +kernel)
theorem kb_PT_sum : Cond.code y_PT_sum prog_1_method_14_code 5 (some .int) ∈ wsG := wg 519 (by decide +kernel) (by decide +kernel)
theorem kb_MO_init : Cond.code y_MO_init prog_8_method_1_code 1 none ∈ wsG := wg 524 (by decide +kernel) (by decide +kernel)
theorem kb_MO_thrown : Cond.code y_MO_thrown prog_8_method_2_code 1 (some .int) ∈ wsG := wg 596 (by decide +kernel) (by decide +kernel)
theorem kb_MO_frame : Cond.code y_MO_frame prog_8_method_5_code 6 none ∈ wsG := wg 600 (by decide +kernel) (by decide +kernel)
theorem kb_MO_in : Cond.code y_MO_in prog_8_method_4_code 3 (some .boolean) ∈ wsG := wg 603 (by decide +kernel) (by decide +kernel)
theorem kb_MO_refuse : Cond.code y_MO_refuse prog_8_method_3_code 3 (some .boolean) ∈ wsG := wg 607 (by decide +kernel) (by decide +kernel)
theorem kb_MO_scissors : Cond.code y_MO_scissors prog_8_method_6_code 5 none ∈ wsG := wg 611 (by decide +kernel) (by decide +kernel)
theorem kb_MO_depth : Cond.code y_MO_depth prog_8_method_7_code 3 none ∈ wsG := wg 615 (by decide +kernel) (by decide +kernel)
theorem kb_MO_stencil : Cond.code y_MO_stencil prog_8_method_8_code 11 none ∈ wsG := wg 619 (by decide +kernel) (by decide +kernel)
theorem kb_MO_blend : Cond.code y_MO_blend prog_8_method_9_code 8 none ∈ wsG := wg 623 (by decide +kernel) (by decide +kernel)
theorem kb_MO_constant : Cond.code y_MO_constant prog_8_method_10_code 3 none ∈ wsG := wg 627 (by decide +kernel) (by decide +kernel)
theorem kb_MO_logic : Cond.code y_MO_logic prog_8_method_11_code 2 none ∈ wsG := wg 631 (by decide +kernel) (by decide +kernel)
theorem kb_MO_mask : Cond.code y_MO_mask prog_8_method_12_code 2 none ∈ wsG := wg 635 (by decide +kernel) (by decide +kernel)
theorem kb_MO_clear : Cond.code y_MO_clear prog_8_method_17_code 11 (some .int) ∈ wsG := wg 639 (by decide +kernel) (by decide +kernel)
theorem kb_MO_isOpen : Cond.code y_MO_isOpen prog_8_method_14_code 4 (some .boolean) ∈ wsG := wg 644 (by decide +kernel) (by decide +kernel)
theorem kb_MO_isInFrame : Cond.code y_MO_isInFrame prog_8_method_13_code 3 (some .boolean) ∈ wsG := wg 648 (by decide +kernel) (by decide +kernel)
theorem kb_MO_placeOf : Cond.code y_MO_placeOf prog_8_method_15_code 3 (some .int) ∈ wsG := wg 652 (by decide +kernel) (by decide +kernel)
theorem kb_MO_writeStencil : Cond.code y_MO_writeStencil prog_8_method_16_code 4 none ∈ wsG := wg 656 (by decide +kernel) (by decide +kernel)
theorem kb_MO_draw : Cond.code y_MO_draw prog_8_method_27_code 13 (some .int) ∈ wsG := wg 660 (by decide +kernel) (by decide +kernel)
theorem kb_MO_answer : Cond.code y_MO_answer prog_8_method_26_code 2 (some .int) ∈ wsG := wg 664 (by decide +kernel) (by decide +kernel)
theorem kb_MO_holds : Cond.code y_MO_holds prog_8_method_18_code 6 (some .boolean) ∈ wsG := wg 667 (by decide +kernel) (by decide +kernel)
theorem kb_MO_act : Cond.code y_MO_act prog_8_method_20_code 5 none ∈ wsG := wg 671 (by decide +kernel) (by decide +kernel)
theorem kb_MO_deed : Cond.code y_MO_deed prog_8_method_19_code 3 (some .int) ∈ wsG := wg 674 (by decide +kernel) (by decide +kernel)
theorem kb_MO_byteOf : Cond.code y_MO_byteOf prog_8_method_21_code 2 (some .int) ∈ wsG := wg 677 (by decide +kernel) (by decide +kernel)
theorem kb_MO_bits : Cond.code y_MO_bits prog_8_method_25_code 5 (some .int) ∈ wsG := wg 683 (by decide +kernel) (by decide +kernel)
theorem kb_MO_blended : Cond.code y_MO_blended prog_8_method_24_code 6 (some .int) ∈ wsG := wg 687 (by decide +kernel) (by decide +kernel)
theorem kb_MO_factor : Cond.code y_MO_factor prog_8_method_22_code 3 (some .int) ∈ wsG := wg 691 (by decide +kernel) (by decide +kernel)
theorem kb_MO_nearest : Cond.code y_MO_nearest prog_8_method_23_code 2 (some .int) ∈ wsG := wg 694 (by decide +kernel) (by decide +kernel)
theorem kb_MO_at : Cond.code y_MO_at prog_8_method_29_code 4 (some .int) ∈ wsG := wg 698 (by decide +kernel) (by decide +kernel)
theorem kb_MO_show : Cond.code y_MO_show prog_8_method_28_code 5 (some .int) ∈ wsG := wg 702 (by decide +kernel) (by decide +kernel)
theorem kb_MO_drawn : Cond.code y_MO_drawn prog_8_method_30_code 2 (some .int) ∈ wsG := wg 706 (by decide +kernel) (by decide +kernel)
theorem kb_MO_sum : Cond.code y_MO_sum prog_8_method_31_code 4 (some .int) ∈ wsG := wg 710 (by decide +kernel) (by decide +kernel)
theorem ko_i : Cond.instanceMethod Lib.objectInit ∈ wsG := wg 47 (by decide +kernel) (by decide +kernel)
theorem ko_c : Cond.code Lib.objectInit ⟨#[0xb1]⟩ 1 none ∈ wsG := wg 48 (by decide +kernel) (by decide +kernel)
theorem kj_s_max : Cond.static Lib.Math.max.name ∈ wsG := wg 59 (by decide +kernel) (by decide +kernel)
theorem kj_c_max : Cond.code Lib.Math.max.name Lib.Math.max.code 2 (some .int) ∈ wsG := wg 60 (by decide +kernel) (by decide +kernel)
theorem kj_s_min : Cond.static Lib.Math.min.name ∈ wsG := wg 56 (by decide +kernel) (by decide +kernel)
theorem kj_c_min : Cond.code Lib.Math.min.name Lib.Math.min.code 2 (some .int) ∈ wsG := wg 57 (by decide +kernel) (by decide +kernel)
theorem kj_n : Cond.initialized "java/lang/Math" ∈ wsG := wg 30 (by decide +kernel) (by decide +kernel)
theorem ka_i : Cond.arrayClass .int ∈ wsG := wg 98 (by decide +kernel) (by decide +kernel)
theorem ka_l : Cond.arrayClass .long ∈ wsG := wg 711 (by decide +kernel) (by decide +kernel)
end
section
theorem hin_c {a b : Cond} (h : a ∈ wsG) : ∀ w ∈ a :: wsG, w ∈ b :: wsG ∧ zgood w = true := fun w hw => by
  rcases List.mem_cons.mp hw with rfl | hw
  · exact ⟨List.mem_cons_of_mem _ h, wsG_good _ h⟩
  · exact ⟨List.mem_cons_of_mem _ hw, wsG_good _ hw⟩
def G_PT : Nat → Option (Nat × Nat × FieldType × Bool) := fun i => match i with
  | 12 => some (0, 0, (.object "PlaceTests$Frame"), false)
  | 21 => some (0, 1, (.object "PlaceTests$Scissors"), true)
  | 25 => some (0, 2, .int, false)
  | 29 => some (0, 3, .boolean, false)
  | 36 => some (0, 4, (.object "PlaceTests$StencilRule"), true)
  | 40 => some (0, 5, (.object "PlaceTests$StencilRule"), true)
  | 46 => some (0, 6, (.object "PlaceTests$Blending"), true)
  | 50 => some (0, 7, .int, false)
  | 53 => some (0, 8, .int, false)
  | 56 => some (0, 9, (.array .int), true)
  | 73 => some (1, 0, .int, true)
  | 80 => some (2, 0, .int, false)
  | 83 => some (2, 1, .int, false)
  | 86 => some (2, 2, .int, false)
  | 89 => some (2, 3, .int, false)
  | 104 => some (3, 0, .int, false)
  | 117 => some (3, 1, .int, false)
  | 120 => some (3, 2, .int, false)
  | 123 => some (3, 3, .int, false)
  | 126 => some (3, 4, .int, false)
  | 129 => some (3, 5, .int, false)
  | 132 => some (3, 6, .int, false)
  | 135 => some (4, 4, .int, false)
  | 145 => some (4, 0, .int, false)
  | 148 => some (4, 1, .int, false)
  | 151 => some (4, 2, .int, false)
  | 154 => some (4, 3, .int, false)
  | 157 => some (4, 5, .int, false)
  | 160 => some (4, 6, .int, false)
  | 182 => some (1, 5, .int, false)
  | 183 => some (1, 7, .int, false)
  | 186 => some (1, 4, .int, false)
  | 187 => some (1, 6, .int, false)
  | 226 => some (1, 8, .int, false)
  | 229 => some (1, 3, (.array .int), true)
  | 238 => some (1, 2, (.array .int), true)
  | 244 => some (1, 1, (.array .int), true)
  | _ => none
theorem G_PT_k : (G_PT 12 = some (0, 0, (.object "PlaceTests$Frame"), false)) ∧ (G_PT 21 = some (0, 1, (.object "PlaceTests$Scissors"), true)) ∧ (G_PT 25 = some (0, 2, .int, false)) ∧ (G_PT 29 = some (0, 3, .boolean, false)) ∧ (G_PT 36 = some (0, 4, (.object "PlaceTests$StencilRule"), true)) ∧ (G_PT 40 = some (0, 5, (.object "PlaceTests$StencilRule"), true)) ∧ (G_PT 46 = some (0, 6, (.object "PlaceTests$Blending"), true)) ∧ (G_PT 50 = some (0, 7, .int, false)) ∧ (G_PT 53 = some (0, 8, .int, false)) ∧ (G_PT 56 = some (0, 9, (.array .int), true)) ∧ (G_PT 73 = some (1, 0, .int, true)) ∧ (G_PT 80 = some (2, 0, .int, false)) ∧ (G_PT 83 = some (2, 1, .int, false)) ∧ (G_PT 86 = some (2, 2, .int, false)) ∧ (G_PT 89 = some (2, 3, .int, false)) ∧ (G_PT 104 = some (3, 0, .int, false)) ∧ (G_PT 117 = some (3, 1, .int, false)) ∧ (G_PT 120 = some (3, 2, .int, false)) ∧ (G_PT 123 = some (3, 3, .int, false)) ∧ (G_PT 126 = some (3, 4, .int, false)) ∧ (G_PT 129 = some (3, 5, .int, false)) ∧ (G_PT 132 = some (3, 6, .int, false)) ∧ (G_PT 135 = some (4, 4, .int, false)) ∧ (G_PT 145 = some (4, 0, .int, false)) ∧ (G_PT 148 = some (4, 1, .int, false)) ∧ (G_PT 151 = some (4, 2, .int, false)) ∧ (G_PT 154 = some (4, 3, .int, false)) ∧ (G_PT 157 = some (4, 5, .int, false)) ∧ (G_PT 160 = some (4, 6, .int, false)) ∧ (G_PT 182 = some (1, 5, .int, false)) ∧ (G_PT 183 = some (1, 7, .int, false)) ∧ (G_PT 186 = some (1, 4, .int, false)) ∧ (G_PT 187 = some (1, 6, .int, false)) ∧ (G_PT 226 = some (1, 8, .int, false)) ∧ (G_PT 229 = some (1, 3, (.array .int), true)) ∧ (G_PT 238 = some (1, 2, (.array .int), true)) ∧ (G_PT 244 = some (1, 1, (.array .int), true)) := ⟨rfl, rfl, rfl, rfl, rfl, rfl, rfl, rfl, rfl, rfl, rfl, rfl, rfl, rfl, rfl, rfl, rfl, rfl, rfl, rfl, rfl, rfl, rfl, rfl, rfl, rfl, rfl, rfl, rfl, rfl, rfl, rfl, rfl, rfl, rfl, rfl, rfl⟩
theorem G_PT_ok {w : Cond} : ∀ idx ci kf ty fin, G_PT idx = some (ci, kf, ty, fin) → zFok (w :: wsG) zcl "PlaceTests" false idx ci kf ty fin := by
  intro idx ci kf ty fin h
  unfold G_PT at h
  split at h
  · cases h; exact ⟨"PlaceTests", F_PT, 10, t_PT, rfl, by decide, fun w hw => List.mem_cons_of_mem _ (u_PT_in w hw), t_PT_ok, rfl, n_PT, rfl, Or.inl ⟨List.mem_cons_of_mem _ kf_PT_12, fun _ => rfl⟩⟩
  · cases h; exact ⟨"PlaceTests", F_PT, 10, t_PT, rfl, by decide, fun w hw => List.mem_cons_of_mem _ (u_PT_in w hw), t_PT_ok, rfl, n_PT, rfl, Or.inl ⟨List.mem_cons_of_mem _ kf_PT_21, fun _ => rfl⟩⟩
  · cases h; exact ⟨"PlaceTests", F_PT, 10, t_PT, rfl, by decide, fun w hw => List.mem_cons_of_mem _ (u_PT_in w hw), t_PT_ok, rfl, n_PT, rfl, Or.inl ⟨List.mem_cons_of_mem _ kf_PT_25, fun _ => rfl⟩⟩
  · cases h; exact ⟨"PlaceTests", F_PT, 10, t_PT, rfl, by decide, fun w hw => List.mem_cons_of_mem _ (u_PT_in w hw), t_PT_ok, rfl, n_PT, rfl, Or.inl ⟨List.mem_cons_of_mem _ kf_PT_29, fun _ => rfl⟩⟩
  · cases h; exact ⟨"PlaceTests", F_PT, 10, t_PT, rfl, by decide, fun w hw => List.mem_cons_of_mem _ (u_PT_in w hw), t_PT_ok, rfl, n_PT, rfl, Or.inl ⟨List.mem_cons_of_mem _ kf_PT_36, fun _ => rfl⟩⟩
  · cases h; exact ⟨"PlaceTests", F_PT, 10, t_PT, rfl, by decide, fun w hw => List.mem_cons_of_mem _ (u_PT_in w hw), t_PT_ok, rfl, n_PT, rfl, Or.inl ⟨List.mem_cons_of_mem _ kf_PT_40, fun _ => rfl⟩⟩
  · cases h; exact ⟨"PlaceTests", F_PT, 10, t_PT, rfl, by decide, fun w hw => List.mem_cons_of_mem _ (u_PT_in w hw), t_PT_ok, rfl, n_PT, rfl, Or.inl ⟨List.mem_cons_of_mem _ kf_PT_46, fun _ => rfl⟩⟩
  · cases h; exact ⟨"PlaceTests", F_PT, 10, t_PT, rfl, by decide, fun w hw => List.mem_cons_of_mem _ (u_PT_in w hw), t_PT_ok, rfl, n_PT, rfl, Or.inl ⟨List.mem_cons_of_mem _ kf_PT_50, fun _ => rfl⟩⟩
  · cases h; exact ⟨"PlaceTests", F_PT, 10, t_PT, rfl, by decide, fun w hw => List.mem_cons_of_mem _ (u_PT_in w hw), t_PT_ok, rfl, n_PT, rfl, Or.inl ⟨List.mem_cons_of_mem _ kf_PT_53, fun _ => rfl⟩⟩
  · cases h; exact ⟨"PlaceTests", F_PT, 10, t_PT, rfl, by decide, fun w hw => List.mem_cons_of_mem _ (u_PT_in w hw), t_PT_ok, rfl, n_PT, rfl, Or.inl ⟨List.mem_cons_of_mem _ kf_PT_56, fun _ => rfl⟩⟩
  · cases h; exact ⟨"PlaceTests$Frame", F_FR, 9, t_FR, rfl, by decide, fun w hw => List.mem_cons_of_mem _ (u_FR_in w hw), t_FR_ok, rfl, n_FR, rfl, Or.inr ⟨fun z => by simp at z, "PlaceTests", List.mem_cons_of_mem _ kf_PT_73⟩⟩
  · cases h; exact ⟨"PlaceTests$Scissors", F_SC, 4, t_SC, rfl, by decide, fun w hw => List.mem_cons_of_mem _ (u_SC_in w hw), t_SC_ok, rfl, n_SC, rfl, Or.inr ⟨fun z => by simp at z, "PlaceTests", List.mem_cons_of_mem _ kf_PT_80⟩⟩
  · cases h; exact ⟨"PlaceTests$Scissors", F_SC, 4, t_SC, rfl, by decide, fun w hw => List.mem_cons_of_mem _ (u_SC_in w hw), t_SC_ok, rfl, n_SC, rfl, Or.inr ⟨fun z => by simp at z, "PlaceTests", List.mem_cons_of_mem _ kf_PT_83⟩⟩
  · cases h; exact ⟨"PlaceTests$Scissors", F_SC, 4, t_SC, rfl, by decide, fun w hw => List.mem_cons_of_mem _ (u_SC_in w hw), t_SC_ok, rfl, n_SC, rfl, Or.inr ⟨fun z => by simp at z, "PlaceTests", List.mem_cons_of_mem _ kf_PT_86⟩⟩
  · cases h; exact ⟨"PlaceTests$Scissors", F_SC, 4, t_SC, rfl, by decide, fun w hw => List.mem_cons_of_mem _ (u_SC_in w hw), t_SC_ok, rfl, n_SC, rfl, Or.inr ⟨fun z => by simp at z, "PlaceTests", List.mem_cons_of_mem _ kf_PT_89⟩⟩
  · cases h; exact ⟨"PlaceTests$StencilRule", F_ST, 7, t_ST, rfl, by decide, fun w hw => List.mem_cons_of_mem _ (u_ST_in w hw), t_ST_ok, rfl, n_ST, rfl, Or.inr ⟨fun z => by simp at z, "PlaceTests", List.mem_cons_of_mem _ kf_PT_104⟩⟩
  · cases h; exact ⟨"PlaceTests$StencilRule", F_ST, 7, t_ST, rfl, by decide, fun w hw => List.mem_cons_of_mem _ (u_ST_in w hw), t_ST_ok, rfl, n_ST, rfl, Or.inr ⟨fun z => by simp at z, "PlaceTests", List.mem_cons_of_mem _ kf_PT_117⟩⟩
  · cases h; exact ⟨"PlaceTests$StencilRule", F_ST, 7, t_ST, rfl, by decide, fun w hw => List.mem_cons_of_mem _ (u_ST_in w hw), t_ST_ok, rfl, n_ST, rfl, Or.inr ⟨fun z => by simp at z, "PlaceTests", List.mem_cons_of_mem _ kf_PT_120⟩⟩
  · cases h; exact ⟨"PlaceTests$StencilRule", F_ST, 7, t_ST, rfl, by decide, fun w hw => List.mem_cons_of_mem _ (u_ST_in w hw), t_ST_ok, rfl, n_ST, rfl, Or.inr ⟨fun z => by simp at z, "PlaceTests", List.mem_cons_of_mem _ kf_PT_123⟩⟩
  · cases h; exact ⟨"PlaceTests$StencilRule", F_ST, 7, t_ST, rfl, by decide, fun w hw => List.mem_cons_of_mem _ (u_ST_in w hw), t_ST_ok, rfl, n_ST, rfl, Or.inr ⟨fun z => by simp at z, "PlaceTests", List.mem_cons_of_mem _ kf_PT_126⟩⟩
  · cases h; exact ⟨"PlaceTests$StencilRule", F_ST, 7, t_ST, rfl, by decide, fun w hw => List.mem_cons_of_mem _ (u_ST_in w hw), t_ST_ok, rfl, n_ST, rfl, Or.inr ⟨fun z => by simp at z, "PlaceTests", List.mem_cons_of_mem _ kf_PT_129⟩⟩
  · cases h; exact ⟨"PlaceTests$StencilRule", F_ST, 7, t_ST, rfl, by decide, fun w hw => List.mem_cons_of_mem _ (u_ST_in w hw), t_ST_ok, rfl, n_ST, rfl, Or.inr ⟨fun z => by simp at z, "PlaceTests", List.mem_cons_of_mem _ kf_PT_132⟩⟩
  · cases h; exact ⟨"PlaceTests$Blending", F_BL, 7, t_BL, rfl, by decide, fun w hw => List.mem_cons_of_mem _ (u_BL_in w hw), t_BL_ok, rfl, n_BL, rfl, Or.inr ⟨fun z => by simp at z, "PlaceTests", List.mem_cons_of_mem _ kf_PT_135⟩⟩
  · cases h; exact ⟨"PlaceTests$Blending", F_BL, 7, t_BL, rfl, by decide, fun w hw => List.mem_cons_of_mem _ (u_BL_in w hw), t_BL_ok, rfl, n_BL, rfl, Or.inr ⟨fun z => by simp at z, "PlaceTests", List.mem_cons_of_mem _ kf_PT_145⟩⟩
  · cases h; exact ⟨"PlaceTests$Blending", F_BL, 7, t_BL, rfl, by decide, fun w hw => List.mem_cons_of_mem _ (u_BL_in w hw), t_BL_ok, rfl, n_BL, rfl, Or.inr ⟨fun z => by simp at z, "PlaceTests", List.mem_cons_of_mem _ kf_PT_148⟩⟩
  · cases h; exact ⟨"PlaceTests$Blending", F_BL, 7, t_BL, rfl, by decide, fun w hw => List.mem_cons_of_mem _ (u_BL_in w hw), t_BL_ok, rfl, n_BL, rfl, Or.inr ⟨fun z => by simp at z, "PlaceTests", List.mem_cons_of_mem _ kf_PT_151⟩⟩
  · cases h; exact ⟨"PlaceTests$Blending", F_BL, 7, t_BL, rfl, by decide, fun w hw => List.mem_cons_of_mem _ (u_BL_in w hw), t_BL_ok, rfl, n_BL, rfl, Or.inr ⟨fun z => by simp at z, "PlaceTests", List.mem_cons_of_mem _ kf_PT_154⟩⟩
  · cases h; exact ⟨"PlaceTests$Blending", F_BL, 7, t_BL, rfl, by decide, fun w hw => List.mem_cons_of_mem _ (u_BL_in w hw), t_BL_ok, rfl, n_BL, rfl, Or.inr ⟨fun z => by simp at z, "PlaceTests", List.mem_cons_of_mem _ kf_PT_157⟩⟩
  · cases h; exact ⟨"PlaceTests$Blending", F_BL, 7, t_BL, rfl, by decide, fun w hw => List.mem_cons_of_mem _ (u_BL_in w hw), t_BL_ok, rfl, n_BL, rfl, Or.inr ⟨fun z => by simp at z, "PlaceTests", List.mem_cons_of_mem _ kf_PT_160⟩⟩
  · cases h; exact ⟨"PlaceTests$Frame", F_FR, 9, t_FR, rfl, by decide, fun w hw => List.mem_cons_of_mem _ (u_FR_in w hw), t_FR_ok, rfl, n_FR, rfl, Or.inr ⟨fun z => by simp at z, "PlaceTests", List.mem_cons_of_mem _ kf_PT_182⟩⟩
  · cases h; exact ⟨"PlaceTests$Frame", F_FR, 9, t_FR, rfl, by decide, fun w hw => List.mem_cons_of_mem _ (u_FR_in w hw), t_FR_ok, rfl, n_FR, rfl, Or.inr ⟨fun z => by simp at z, "PlaceTests", List.mem_cons_of_mem _ kf_PT_183⟩⟩
  · cases h; exact ⟨"PlaceTests$Frame", F_FR, 9, t_FR, rfl, by decide, fun w hw => List.mem_cons_of_mem _ (u_FR_in w hw), t_FR_ok, rfl, n_FR, rfl, Or.inr ⟨fun z => by simp at z, "PlaceTests", List.mem_cons_of_mem _ kf_PT_186⟩⟩
  · cases h; exact ⟨"PlaceTests$Frame", F_FR, 9, t_FR, rfl, by decide, fun w hw => List.mem_cons_of_mem _ (u_FR_in w hw), t_FR_ok, rfl, n_FR, rfl, Or.inr ⟨fun z => by simp at z, "PlaceTests", List.mem_cons_of_mem _ kf_PT_187⟩⟩
  · cases h; exact ⟨"PlaceTests$Frame", F_FR, 9, t_FR, rfl, by decide, fun w hw => List.mem_cons_of_mem _ (u_FR_in w hw), t_FR_ok, rfl, n_FR, rfl, Or.inr ⟨fun z => by simp at z, "PlaceTests", List.mem_cons_of_mem _ kf_PT_226⟩⟩
  · cases h; exact ⟨"PlaceTests$Frame", F_FR, 9, t_FR, rfl, by decide, fun w hw => List.mem_cons_of_mem _ (u_FR_in w hw), t_FR_ok, rfl, n_FR, rfl, Or.inr ⟨fun z => by simp at z, "PlaceTests", List.mem_cons_of_mem _ kf_PT_229⟩⟩
  · cases h; exact ⟨"PlaceTests$Frame", F_FR, 9, t_FR, rfl, by decide, fun w hw => List.mem_cons_of_mem _ (u_FR_in w hw), t_FR_ok, rfl, n_FR, rfl, Or.inr ⟨fun z => by simp at z, "PlaceTests", List.mem_cons_of_mem _ kf_PT_238⟩⟩
  · cases h; exact ⟨"PlaceTests$Frame", F_FR, 9, t_FR, rfl, by decide, fun w hw => List.mem_cons_of_mem _ (u_FR_in w hw), t_FR_ok, rfl, n_FR, rfl, Or.inr ⟨fun z => by simp at z, "PlaceTests", List.mem_cons_of_mem _ kf_PT_244⟩⟩
  · cases h
def G_PT_c : Nat → Option (Nat × Nat × FieldType × Bool) := fun i => match i with
  | 12 => some (0, 0, (.object "PlaceTests$Frame"), false)
  | 21 => some (0, 1, (.object "PlaceTests$Scissors"), true)
  | 25 => some (0, 2, .int, false)
  | 29 => some (0, 3, .boolean, false)
  | 36 => some (0, 4, (.object "PlaceTests$StencilRule"), true)
  | 40 => some (0, 5, (.object "PlaceTests$StencilRule"), true)
  | 46 => some (0, 6, (.object "PlaceTests$Blending"), true)
  | 50 => some (0, 7, .int, false)
  | 53 => some (0, 8, .int, false)
  | 56 => some (0, 9, (.array .int), true)
  | _ => none
theorem G_PT_c_k : (G_PT_c 12 = some (0, 0, (.object "PlaceTests$Frame"), false)) ∧ (G_PT_c 21 = some (0, 1, (.object "PlaceTests$Scissors"), true)) ∧ (G_PT_c 25 = some (0, 2, .int, false)) ∧ (G_PT_c 29 = some (0, 3, .boolean, false)) ∧ (G_PT_c 36 = some (0, 4, (.object "PlaceTests$StencilRule"), true)) ∧ (G_PT_c 40 = some (0, 5, (.object "PlaceTests$StencilRule"), true)) ∧ (G_PT_c 46 = some (0, 6, (.object "PlaceTests$Blending"), true)) ∧ (G_PT_c 50 = some (0, 7, .int, false)) ∧ (G_PT_c 53 = some (0, 8, .int, false)) ∧ (G_PT_c 56 = some (0, 9, (.array .int), true)) := ⟨rfl, rfl, rfl, rfl, rfl, rfl, rfl, rfl, rfl, rfl⟩
theorem G_PT_c_ok {w : Cond} : ∀ idx ci kf ty fin, G_PT_c idx = some (ci, kf, ty, fin) → zFok (w :: wsG) zcl "PlaceTests" true idx ci kf ty fin := by
  intro idx ci kf ty fin h
  unfold G_PT_c at h
  split at h
  · cases h; exact ⟨"PlaceTests", F_PT, 10, t_PT, rfl, by decide, fun w hw => List.mem_cons_of_mem _ (u_PT_in w hw), t_PT_ok, rfl, n_PT, rfl, Or.inl ⟨List.mem_cons_of_mem _ kf_PT_12, fun _ => rfl⟩⟩
  · cases h; exact ⟨"PlaceTests", F_PT, 10, t_PT, rfl, by decide, fun w hw => List.mem_cons_of_mem _ (u_PT_in w hw), t_PT_ok, rfl, n_PT, rfl, Or.inl ⟨List.mem_cons_of_mem _ kf_PT_21, fun _ => rfl⟩⟩
  · cases h; exact ⟨"PlaceTests", F_PT, 10, t_PT, rfl, by decide, fun w hw => List.mem_cons_of_mem _ (u_PT_in w hw), t_PT_ok, rfl, n_PT, rfl, Or.inl ⟨List.mem_cons_of_mem _ kf_PT_25, fun _ => rfl⟩⟩
  · cases h; exact ⟨"PlaceTests", F_PT, 10, t_PT, rfl, by decide, fun w hw => List.mem_cons_of_mem _ (u_PT_in w hw), t_PT_ok, rfl, n_PT, rfl, Or.inl ⟨List.mem_cons_of_mem _ kf_PT_29, fun _ => rfl⟩⟩
  · cases h; exact ⟨"PlaceTests", F_PT, 10, t_PT, rfl, by decide, fun w hw => List.mem_cons_of_mem _ (u_PT_in w hw), t_PT_ok, rfl, n_PT, rfl, Or.inl ⟨List.mem_cons_of_mem _ kf_PT_36, fun _ => rfl⟩⟩
  · cases h; exact ⟨"PlaceTests", F_PT, 10, t_PT, rfl, by decide, fun w hw => List.mem_cons_of_mem _ (u_PT_in w hw), t_PT_ok, rfl, n_PT, rfl, Or.inl ⟨List.mem_cons_of_mem _ kf_PT_40, fun _ => rfl⟩⟩
  · cases h; exact ⟨"PlaceTests", F_PT, 10, t_PT, rfl, by decide, fun w hw => List.mem_cons_of_mem _ (u_PT_in w hw), t_PT_ok, rfl, n_PT, rfl, Or.inl ⟨List.mem_cons_of_mem _ kf_PT_46, fun _ => rfl⟩⟩
  · cases h; exact ⟨"PlaceTests", F_PT, 10, t_PT, rfl, by decide, fun w hw => List.mem_cons_of_mem _ (u_PT_in w hw), t_PT_ok, rfl, n_PT, rfl, Or.inl ⟨List.mem_cons_of_mem _ kf_PT_50, fun _ => rfl⟩⟩
  · cases h; exact ⟨"PlaceTests", F_PT, 10, t_PT, rfl, by decide, fun w hw => List.mem_cons_of_mem _ (u_PT_in w hw), t_PT_ok, rfl, n_PT, rfl, Or.inl ⟨List.mem_cons_of_mem _ kf_PT_53, fun _ => rfl⟩⟩
  · cases h; exact ⟨"PlaceTests", F_PT, 10, t_PT, rfl, by decide, fun w hw => List.mem_cons_of_mem _ (u_PT_in w hw), t_PT_ok, rfl, n_PT, rfl, Or.inl ⟨List.mem_cons_of_mem _ kf_PT_56, fun _ => rfl⟩⟩
  · cases h
def G_FR : Nat → Option (Nat × Nat × FieldType × Bool) := fun i => match i with
  | 20 => some (1, 0, .int, true)
  | 24 => some (1, 1, (.array .int), true)
  | 28 => some (1, 2, (.array .int), true)
  | 31 => some (1, 3, (.array .int), true)
  | 34 => some (1, 4, .int, false)
  | 37 => some (1, 5, .int, false)
  | 40 => some (1, 6, .int, false)
  | 43 => some (1, 7, .int, false)
  | 46 => some (1, 8, .int, false)
  | _ => none
theorem G_FR_k : (G_FR 20 = some (1, 0, .int, true)) ∧ (G_FR 24 = some (1, 1, (.array .int), true)) ∧ (G_FR 28 = some (1, 2, (.array .int), true)) ∧ (G_FR 31 = some (1, 3, (.array .int), true)) ∧ (G_FR 34 = some (1, 4, .int, false)) ∧ (G_FR 37 = some (1, 5, .int, false)) ∧ (G_FR 40 = some (1, 6, .int, false)) ∧ (G_FR 43 = some (1, 7, .int, false)) ∧ (G_FR 46 = some (1, 8, .int, false)) := ⟨rfl, rfl, rfl, rfl, rfl, rfl, rfl, rfl, rfl⟩
theorem G_FR_ok {w : Cond} : ∀ idx ci kf ty fin, G_FR idx = some (ci, kf, ty, fin) → zFok (w :: wsG) zcl "PlaceTests$Frame" false idx ci kf ty fin := by
  intro idx ci kf ty fin h
  unfold G_FR at h
  split at h
  · cases h; exact ⟨"PlaceTests$Frame", F_FR, 9, t_FR, rfl, by decide, fun w hw => List.mem_cons_of_mem _ (u_FR_in w hw), t_FR_ok, rfl, n_FR, rfl, Or.inl ⟨List.mem_cons_of_mem _ kf_FR_20, fun _ => rfl⟩⟩
  · cases h; exact ⟨"PlaceTests$Frame", F_FR, 9, t_FR, rfl, by decide, fun w hw => List.mem_cons_of_mem _ (u_FR_in w hw), t_FR_ok, rfl, n_FR, rfl, Or.inl ⟨List.mem_cons_of_mem _ kf_FR_24, fun _ => rfl⟩⟩
  · cases h; exact ⟨"PlaceTests$Frame", F_FR, 9, t_FR, rfl, by decide, fun w hw => List.mem_cons_of_mem _ (u_FR_in w hw), t_FR_ok, rfl, n_FR, rfl, Or.inl ⟨List.mem_cons_of_mem _ kf_FR_28, fun _ => rfl⟩⟩
  · cases h; exact ⟨"PlaceTests$Frame", F_FR, 9, t_FR, rfl, by decide, fun w hw => List.mem_cons_of_mem _ (u_FR_in w hw), t_FR_ok, rfl, n_FR, rfl, Or.inl ⟨List.mem_cons_of_mem _ kf_FR_31, fun _ => rfl⟩⟩
  · cases h; exact ⟨"PlaceTests$Frame", F_FR, 9, t_FR, rfl, by decide, fun w hw => List.mem_cons_of_mem _ (u_FR_in w hw), t_FR_ok, rfl, n_FR, rfl, Or.inl ⟨List.mem_cons_of_mem _ kf_FR_34, fun _ => rfl⟩⟩
  · cases h; exact ⟨"PlaceTests$Frame", F_FR, 9, t_FR, rfl, by decide, fun w hw => List.mem_cons_of_mem _ (u_FR_in w hw), t_FR_ok, rfl, n_FR, rfl, Or.inl ⟨List.mem_cons_of_mem _ kf_FR_37, fun _ => rfl⟩⟩
  · cases h; exact ⟨"PlaceTests$Frame", F_FR, 9, t_FR, rfl, by decide, fun w hw => List.mem_cons_of_mem _ (u_FR_in w hw), t_FR_ok, rfl, n_FR, rfl, Or.inl ⟨List.mem_cons_of_mem _ kf_FR_40, fun _ => rfl⟩⟩
  · cases h; exact ⟨"PlaceTests$Frame", F_FR, 9, t_FR, rfl, by decide, fun w hw => List.mem_cons_of_mem _ (u_FR_in w hw), t_FR_ok, rfl, n_FR, rfl, Or.inl ⟨List.mem_cons_of_mem _ kf_FR_43, fun _ => rfl⟩⟩
  · cases h; exact ⟨"PlaceTests$Frame", F_FR, 9, t_FR, rfl, by decide, fun w hw => List.mem_cons_of_mem _ (u_FR_in w hw), t_FR_ok, rfl, n_FR, rfl, Or.inl ⟨List.mem_cons_of_mem _ kf_FR_46, fun _ => rfl⟩⟩
  · cases h
def G_FR_c : Nat → Option (Nat × Nat × FieldType × Bool) := fun i => match i with
  | 20 => some (1, 0, .int, true)
  | 24 => some (1, 1, (.array .int), true)
  | 28 => some (1, 2, (.array .int), true)
  | 31 => some (1, 3, (.array .int), true)
  | 34 => some (1, 4, .int, false)
  | 37 => some (1, 5, .int, false)
  | 40 => some (1, 6, .int, false)
  | 43 => some (1, 7, .int, false)
  | 46 => some (1, 8, .int, false)
  | _ => none
theorem G_FR_c_k : (G_FR_c 20 = some (1, 0, .int, true)) ∧ (G_FR_c 24 = some (1, 1, (.array .int), true)) ∧ (G_FR_c 28 = some (1, 2, (.array .int), true)) ∧ (G_FR_c 31 = some (1, 3, (.array .int), true)) ∧ (G_FR_c 34 = some (1, 4, .int, false)) ∧ (G_FR_c 37 = some (1, 5, .int, false)) ∧ (G_FR_c 40 = some (1, 6, .int, false)) ∧ (G_FR_c 43 = some (1, 7, .int, false)) ∧ (G_FR_c 46 = some (1, 8, .int, false)) := ⟨rfl, rfl, rfl, rfl, rfl, rfl, rfl, rfl, rfl⟩
theorem G_FR_c_ok {w : Cond} : ∀ idx ci kf ty fin, G_FR_c idx = some (ci, kf, ty, fin) → zFok (w :: wsG) zcl "PlaceTests$Frame" true idx ci kf ty fin := by
  intro idx ci kf ty fin h
  unfold G_FR_c at h
  split at h
  · cases h; exact ⟨"PlaceTests$Frame", F_FR, 9, t_FR, rfl, by decide, fun w hw => List.mem_cons_of_mem _ (u_FR_in w hw), t_FR_ok, rfl, n_FR, rfl, Or.inl ⟨List.mem_cons_of_mem _ kf_FR_20, fun _ => rfl⟩⟩
  · cases h; exact ⟨"PlaceTests$Frame", F_FR, 9, t_FR, rfl, by decide, fun w hw => List.mem_cons_of_mem _ (u_FR_in w hw), t_FR_ok, rfl, n_FR, rfl, Or.inl ⟨List.mem_cons_of_mem _ kf_FR_24, fun _ => rfl⟩⟩
  · cases h; exact ⟨"PlaceTests$Frame", F_FR, 9, t_FR, rfl, by decide, fun w hw => List.mem_cons_of_mem _ (u_FR_in w hw), t_FR_ok, rfl, n_FR, rfl, Or.inl ⟨List.mem_cons_of_mem _ kf_FR_28, fun _ => rfl⟩⟩
  · cases h; exact ⟨"PlaceTests$Frame", F_FR, 9, t_FR, rfl, by decide, fun w hw => List.mem_cons_of_mem _ (u_FR_in w hw), t_FR_ok, rfl, n_FR, rfl, Or.inl ⟨List.mem_cons_of_mem _ kf_FR_31, fun _ => rfl⟩⟩
  · cases h; exact ⟨"PlaceTests$Frame", F_FR, 9, t_FR, rfl, by decide, fun w hw => List.mem_cons_of_mem _ (u_FR_in w hw), t_FR_ok, rfl, n_FR, rfl, Or.inl ⟨List.mem_cons_of_mem _ kf_FR_34, fun _ => rfl⟩⟩
  · cases h; exact ⟨"PlaceTests$Frame", F_FR, 9, t_FR, rfl, by decide, fun w hw => List.mem_cons_of_mem _ (u_FR_in w hw), t_FR_ok, rfl, n_FR, rfl, Or.inl ⟨List.mem_cons_of_mem _ kf_FR_37, fun _ => rfl⟩⟩
  · cases h; exact ⟨"PlaceTests$Frame", F_FR, 9, t_FR, rfl, by decide, fun w hw => List.mem_cons_of_mem _ (u_FR_in w hw), t_FR_ok, rfl, n_FR, rfl, Or.inl ⟨List.mem_cons_of_mem _ kf_FR_40, fun _ => rfl⟩⟩
  · cases h; exact ⟨"PlaceTests$Frame", F_FR, 9, t_FR, rfl, by decide, fun w hw => List.mem_cons_of_mem _ (u_FR_in w hw), t_FR_ok, rfl, n_FR, rfl, Or.inl ⟨List.mem_cons_of_mem _ kf_FR_43, fun _ => rfl⟩⟩
  · cases h; exact ⟨"PlaceTests$Frame", F_FR, 9, t_FR, rfl, by decide, fun w hw => List.mem_cons_of_mem _ (u_FR_in w hw), t_FR_ok, rfl, n_FR, rfl, Or.inl ⟨List.mem_cons_of_mem _ kf_FR_46, fun _ => rfl⟩⟩
  · cases h
def G_SC : Nat → Option (Nat × Nat × FieldType × Bool) := fun i => match i with
  | 7 => some (2, 0, .int, false)
  | 13 => some (2, 1, .int, false)
  | 16 => some (2, 2, .int, false)
  | 19 => some (2, 3, .int, false)
  | _ => none
theorem G_SC_k : (G_SC 7 = some (2, 0, .int, false)) ∧ (G_SC 13 = some (2, 1, .int, false)) ∧ (G_SC 16 = some (2, 2, .int, false)) ∧ (G_SC 19 = some (2, 3, .int, false)) := ⟨rfl, rfl, rfl, rfl⟩
theorem G_SC_ok {w : Cond} : ∀ idx ci kf ty fin, G_SC idx = some (ci, kf, ty, fin) → zFok (w :: wsG) zcl "PlaceTests$Scissors" false idx ci kf ty fin := by
  intro idx ci kf ty fin h
  unfold G_SC at h
  split at h
  · cases h; exact ⟨"PlaceTests$Scissors", F_SC, 4, t_SC, rfl, by decide, fun w hw => List.mem_cons_of_mem _ (u_SC_in w hw), t_SC_ok, rfl, n_SC, rfl, Or.inl ⟨List.mem_cons_of_mem _ kf_SC_7, fun _ => rfl⟩⟩
  · cases h; exact ⟨"PlaceTests$Scissors", F_SC, 4, t_SC, rfl, by decide, fun w hw => List.mem_cons_of_mem _ (u_SC_in w hw), t_SC_ok, rfl, n_SC, rfl, Or.inl ⟨List.mem_cons_of_mem _ kf_SC_13, fun _ => rfl⟩⟩
  · cases h; exact ⟨"PlaceTests$Scissors", F_SC, 4, t_SC, rfl, by decide, fun w hw => List.mem_cons_of_mem _ (u_SC_in w hw), t_SC_ok, rfl, n_SC, rfl, Or.inl ⟨List.mem_cons_of_mem _ kf_SC_16, fun _ => rfl⟩⟩
  · cases h; exact ⟨"PlaceTests$Scissors", F_SC, 4, t_SC, rfl, by decide, fun w hw => List.mem_cons_of_mem _ (u_SC_in w hw), t_SC_ok, rfl, n_SC, rfl, Or.inl ⟨List.mem_cons_of_mem _ kf_SC_19, fun _ => rfl⟩⟩
  · cases h
def G_SC_c : Nat → Option (Nat × Nat × FieldType × Bool) := fun i => match i with
  | 7 => some (2, 0, .int, false)
  | 13 => some (2, 1, .int, false)
  | 16 => some (2, 2, .int, false)
  | 19 => some (2, 3, .int, false)
  | _ => none
theorem G_SC_c_k : (G_SC_c 7 = some (2, 0, .int, false)) ∧ (G_SC_c 13 = some (2, 1, .int, false)) ∧ (G_SC_c 16 = some (2, 2, .int, false)) ∧ (G_SC_c 19 = some (2, 3, .int, false)) := ⟨rfl, rfl, rfl, rfl⟩
theorem G_SC_c_ok {w : Cond} : ∀ idx ci kf ty fin, G_SC_c idx = some (ci, kf, ty, fin) → zFok (w :: wsG) zcl "PlaceTests$Scissors" true idx ci kf ty fin := by
  intro idx ci kf ty fin h
  unfold G_SC_c at h
  split at h
  · cases h; exact ⟨"PlaceTests$Scissors", F_SC, 4, t_SC, rfl, by decide, fun w hw => List.mem_cons_of_mem _ (u_SC_in w hw), t_SC_ok, rfl, n_SC, rfl, Or.inl ⟨List.mem_cons_of_mem _ kf_SC_7, fun _ => rfl⟩⟩
  · cases h; exact ⟨"PlaceTests$Scissors", F_SC, 4, t_SC, rfl, by decide, fun w hw => List.mem_cons_of_mem _ (u_SC_in w hw), t_SC_ok, rfl, n_SC, rfl, Or.inl ⟨List.mem_cons_of_mem _ kf_SC_13, fun _ => rfl⟩⟩
  · cases h; exact ⟨"PlaceTests$Scissors", F_SC, 4, t_SC, rfl, by decide, fun w hw => List.mem_cons_of_mem _ (u_SC_in w hw), t_SC_ok, rfl, n_SC, rfl, Or.inl ⟨List.mem_cons_of_mem _ kf_SC_16, fun _ => rfl⟩⟩
  · cases h; exact ⟨"PlaceTests$Scissors", F_SC, 4, t_SC, rfl, by decide, fun w hw => List.mem_cons_of_mem _ (u_SC_in w hw), t_SC_ok, rfl, n_SC, rfl, Or.inl ⟨List.mem_cons_of_mem _ kf_SC_19, fun _ => rfl⟩⟩
  · cases h
def G_ST : Nat → Option (Nat × Nat × FieldType × Bool) := fun i => match i with
  | 9 => some (3, 0, .int, false)
  | 15 => some (3, 1, .int, false)
  | 18 => some (3, 2, .int, false)
  | 29 => some (3, 3, .int, false)
  | _ => none
theorem G_ST_k : (G_ST 9 = some (3, 0, .int, false)) ∧ (G_ST 15 = some (3, 1, .int, false)) ∧ (G_ST 18 = some (3, 2, .int, false)) ∧ (G_ST 29 = some (3, 3, .int, false)) := ⟨rfl, rfl, rfl, rfl⟩
theorem G_ST_ok {w : Cond} : ∀ idx ci kf ty fin, G_ST idx = some (ci, kf, ty, fin) → zFok (w :: wsG) zcl "PlaceTests$StencilRule" false idx ci kf ty fin := by
  intro idx ci kf ty fin h
  unfold G_ST at h
  split at h
  · cases h; exact ⟨"PlaceTests$StencilRule", F_ST, 7, t_ST, rfl, by decide, fun w hw => List.mem_cons_of_mem _ (u_ST_in w hw), t_ST_ok, rfl, n_ST, rfl, Or.inl ⟨List.mem_cons_of_mem _ kf_ST_9, fun _ => rfl⟩⟩
  · cases h; exact ⟨"PlaceTests$StencilRule", F_ST, 7, t_ST, rfl, by decide, fun w hw => List.mem_cons_of_mem _ (u_ST_in w hw), t_ST_ok, rfl, n_ST, rfl, Or.inl ⟨List.mem_cons_of_mem _ kf_ST_15, fun _ => rfl⟩⟩
  · cases h; exact ⟨"PlaceTests$StencilRule", F_ST, 7, t_ST, rfl, by decide, fun w hw => List.mem_cons_of_mem _ (u_ST_in w hw), t_ST_ok, rfl, n_ST, rfl, Or.inl ⟨List.mem_cons_of_mem _ kf_ST_18, fun _ => rfl⟩⟩
  · cases h; exact ⟨"PlaceTests$StencilRule", F_ST, 7, t_ST, rfl, by decide, fun w hw => List.mem_cons_of_mem _ (u_ST_in w hw), t_ST_ok, rfl, n_ST, rfl, Or.inl ⟨List.mem_cons_of_mem _ kf_ST_29, fun _ => rfl⟩⟩
  · cases h
def G_ST_c : Nat → Option (Nat × Nat × FieldType × Bool) := fun i => match i with
  | 9 => some (3, 0, .int, false)
  | 15 => some (3, 1, .int, false)
  | 18 => some (3, 2, .int, false)
  | 29 => some (3, 3, .int, false)
  | _ => none
theorem G_ST_c_k : (G_ST_c 9 = some (3, 0, .int, false)) ∧ (G_ST_c 15 = some (3, 1, .int, false)) ∧ (G_ST_c 18 = some (3, 2, .int, false)) ∧ (G_ST_c 29 = some (3, 3, .int, false)) := ⟨rfl, rfl, rfl, rfl⟩
theorem G_ST_c_ok {w : Cond} : ∀ idx ci kf ty fin, G_ST_c idx = some (ci, kf, ty, fin) → zFok (w :: wsG) zcl "PlaceTests$StencilRule" true idx ci kf ty fin := by
  intro idx ci kf ty fin h
  unfold G_ST_c at h
  split at h
  · cases h; exact ⟨"PlaceTests$StencilRule", F_ST, 7, t_ST, rfl, by decide, fun w hw => List.mem_cons_of_mem _ (u_ST_in w hw), t_ST_ok, rfl, n_ST, rfl, Or.inl ⟨List.mem_cons_of_mem _ kf_ST_9, fun _ => rfl⟩⟩
  · cases h; exact ⟨"PlaceTests$StencilRule", F_ST, 7, t_ST, rfl, by decide, fun w hw => List.mem_cons_of_mem _ (u_ST_in w hw), t_ST_ok, rfl, n_ST, rfl, Or.inl ⟨List.mem_cons_of_mem _ kf_ST_15, fun _ => rfl⟩⟩
  · cases h; exact ⟨"PlaceTests$StencilRule", F_ST, 7, t_ST, rfl, by decide, fun w hw => List.mem_cons_of_mem _ (u_ST_in w hw), t_ST_ok, rfl, n_ST, rfl, Or.inl ⟨List.mem_cons_of_mem _ kf_ST_18, fun _ => rfl⟩⟩
  · cases h; exact ⟨"PlaceTests$StencilRule", F_ST, 7, t_ST, rfl, by decide, fun w hw => List.mem_cons_of_mem _ (u_ST_in w hw), t_ST_ok, rfl, n_ST, rfl, Or.inl ⟨List.mem_cons_of_mem _ kf_ST_29, fun _ => rfl⟩⟩
  · cases h
def G_BL : Nat → Option (Nat × Nat × FieldType × Bool) := fun i => match i with
  | 9 => some (4, 4, .int, false)
  | 25 => some (4, 2, .int, false)
  | 28 => some (4, 0, .int, false)
  | 35 => some (4, 3, .int, false)
  | 38 => some (4, 1, .int, false)
  | 41 => some (4, 5, .int, false)
  | 56 => some (4, 6, .int, false)
  | _ => none
theorem G_BL_k : (G_BL 9 = some (4, 4, .int, false)) ∧ (G_BL 25 = some (4, 2, .int, false)) ∧ (G_BL 28 = some (4, 0, .int, false)) ∧ (G_BL 35 = some (4, 3, .int, false)) ∧ (G_BL 38 = some (4, 1, .int, false)) ∧ (G_BL 41 = some (4, 5, .int, false)) ∧ (G_BL 56 = some (4, 6, .int, false)) := ⟨rfl, rfl, rfl, rfl, rfl, rfl, rfl⟩
theorem G_BL_ok {w : Cond} : ∀ idx ci kf ty fin, G_BL idx = some (ci, kf, ty, fin) → zFok (w :: wsG) zcl "PlaceTests$Blending" false idx ci kf ty fin := by
  intro idx ci kf ty fin h
  unfold G_BL at h
  split at h
  · cases h; exact ⟨"PlaceTests$Blending", F_BL, 7, t_BL, rfl, by decide, fun w hw => List.mem_cons_of_mem _ (u_BL_in w hw), t_BL_ok, rfl, n_BL, rfl, Or.inl ⟨List.mem_cons_of_mem _ kf_BL_9, fun _ => rfl⟩⟩
  · cases h; exact ⟨"PlaceTests$Blending", F_BL, 7, t_BL, rfl, by decide, fun w hw => List.mem_cons_of_mem _ (u_BL_in w hw), t_BL_ok, rfl, n_BL, rfl, Or.inl ⟨List.mem_cons_of_mem _ kf_BL_25, fun _ => rfl⟩⟩
  · cases h; exact ⟨"PlaceTests$Blending", F_BL, 7, t_BL, rfl, by decide, fun w hw => List.mem_cons_of_mem _ (u_BL_in w hw), t_BL_ok, rfl, n_BL, rfl, Or.inl ⟨List.mem_cons_of_mem _ kf_BL_28, fun _ => rfl⟩⟩
  · cases h; exact ⟨"PlaceTests$Blending", F_BL, 7, t_BL, rfl, by decide, fun w hw => List.mem_cons_of_mem _ (u_BL_in w hw), t_BL_ok, rfl, n_BL, rfl, Or.inl ⟨List.mem_cons_of_mem _ kf_BL_35, fun _ => rfl⟩⟩
  · cases h; exact ⟨"PlaceTests$Blending", F_BL, 7, t_BL, rfl, by decide, fun w hw => List.mem_cons_of_mem _ (u_BL_in w hw), t_BL_ok, rfl, n_BL, rfl, Or.inl ⟨List.mem_cons_of_mem _ kf_BL_38, fun _ => rfl⟩⟩
  · cases h; exact ⟨"PlaceTests$Blending", F_BL, 7, t_BL, rfl, by decide, fun w hw => List.mem_cons_of_mem _ (u_BL_in w hw), t_BL_ok, rfl, n_BL, rfl, Or.inl ⟨List.mem_cons_of_mem _ kf_BL_41, fun _ => rfl⟩⟩
  · cases h; exact ⟨"PlaceTests$Blending", F_BL, 7, t_BL, rfl, by decide, fun w hw => List.mem_cons_of_mem _ (u_BL_in w hw), t_BL_ok, rfl, n_BL, rfl, Or.inl ⟨List.mem_cons_of_mem _ kf_BL_56, fun _ => rfl⟩⟩
  · cases h
def G_BL_c : Nat → Option (Nat × Nat × FieldType × Bool) := fun i => match i with
  | 9 => some (4, 4, .int, false)
  | 25 => some (4, 2, .int, false)
  | 28 => some (4, 0, .int, false)
  | 35 => some (4, 3, .int, false)
  | 38 => some (4, 1, .int, false)
  | 41 => some (4, 5, .int, false)
  | 56 => some (4, 6, .int, false)
  | _ => none
theorem G_BL_c_k : (G_BL_c 9 = some (4, 4, .int, false)) ∧ (G_BL_c 25 = some (4, 2, .int, false)) ∧ (G_BL_c 28 = some (4, 0, .int, false)) ∧ (G_BL_c 35 = some (4, 3, .int, false)) ∧ (G_BL_c 38 = some (4, 1, .int, false)) ∧ (G_BL_c 41 = some (4, 5, .int, false)) ∧ (G_BL_c 56 = some (4, 6, .int, false)) := ⟨rfl, rfl, rfl, rfl, rfl, rfl, rfl⟩
theorem G_BL_c_ok {w : Cond} : ∀ idx ci kf ty fin, G_BL_c idx = some (ci, kf, ty, fin) → zFok (w :: wsG) zcl "PlaceTests$Blending" true idx ci kf ty fin := by
  intro idx ci kf ty fin h
  unfold G_BL_c at h
  split at h
  · cases h; exact ⟨"PlaceTests$Blending", F_BL, 7, t_BL, rfl, by decide, fun w hw => List.mem_cons_of_mem _ (u_BL_in w hw), t_BL_ok, rfl, n_BL, rfl, Or.inl ⟨List.mem_cons_of_mem _ kf_BL_9, fun _ => rfl⟩⟩
  · cases h; exact ⟨"PlaceTests$Blending", F_BL, 7, t_BL, rfl, by decide, fun w hw => List.mem_cons_of_mem _ (u_BL_in w hw), t_BL_ok, rfl, n_BL, rfl, Or.inl ⟨List.mem_cons_of_mem _ kf_BL_25, fun _ => rfl⟩⟩
  · cases h; exact ⟨"PlaceTests$Blending", F_BL, 7, t_BL, rfl, by decide, fun w hw => List.mem_cons_of_mem _ (u_BL_in w hw), t_BL_ok, rfl, n_BL, rfl, Or.inl ⟨List.mem_cons_of_mem _ kf_BL_28, fun _ => rfl⟩⟩
  · cases h; exact ⟨"PlaceTests$Blending", F_BL, 7, t_BL, rfl, by decide, fun w hw => List.mem_cons_of_mem _ (u_BL_in w hw), t_BL_ok, rfl, n_BL, rfl, Or.inl ⟨List.mem_cons_of_mem _ kf_BL_35, fun _ => rfl⟩⟩
  · cases h; exact ⟨"PlaceTests$Blending", F_BL, 7, t_BL, rfl, by decide, fun w hw => List.mem_cons_of_mem _ (u_BL_in w hw), t_BL_ok, rfl, n_BL, rfl, Or.inl ⟨List.mem_cons_of_mem _ kf_BL_38, fun _ => rfl⟩⟩
  · cases h; exact ⟨"PlaceTests$Blending", F_BL, 7, t_BL, rfl, by decide, fun w hw => List.mem_cons_of_mem _ (u_BL_in w hw), t_BL_ok, rfl, n_BL, rfl, Or.inl ⟨List.mem_cons_of_mem _ kf_BL_41, fun _ => rfl⟩⟩
  · cases h; exact ⟨"PlaceTests$Blending", F_BL, 7, t_BL, rfl, by decide, fun w hw => List.mem_cons_of_mem _ (u_BL_in w hw), t_BL_ok, rfl, n_BL, rfl, Or.inl ⟨List.mem_cons_of_mem _ kf_BL_56, fun _ => rfl⟩⟩
  · cases h
def G_MO : Nat → Option (Nat × Nat × FieldType × Bool) := fun i => match i with
  | 7 => some (5, 3, .int, false)
  | 13 => some (5, 4, .int, false)
  | 16 => some (5, 5, (.array .int), true)
  | 20 => some (5, 6, (.array .int), true)
  | 23 => some (5, 7, (.array .int), true)
  | 26 => some (5, 9, (.array .int), true)
  | 29 => some (5, 10, .int, false)
  | 32 => some (5, 12, (.array .int), true)
  | 35 => some (5, 13, (.array .int), true)
  | 38 => some (5, 14, .int, false)
  | 41 => some (5, 16, (.array .int), true)
  | 44 => some (5, 17, .int, false)
  | 47 => some (5, 18, .int, false)
  | 50 => some (5, 19, (.array .int), true)
  | 53 => some (5, 20, (.array .int), true)
  | 56 => some (5, 21, (.array .int), true)
  | 59 => some (5, 0, .int, false)
  | 70 => some (5, 1, .int, false)
  | 73 => some (5, 2, .int, false)
  | 76 => some (5, 8, .boolean, false)
  | 80 => some (5, 11, .boolean, false)
  | 83 => some (5, 15, .int, false)
  | _ => none
theorem G_MO_k : (G_MO 7 = some (5, 3, .int, false)) ∧ (G_MO 13 = some (5, 4, .int, false)) ∧ (G_MO 16 = some (5, 5, (.array .int), true)) ∧ (G_MO 20 = some (5, 6, (.array .int), true)) ∧ (G_MO 23 = some (5, 7, (.array .int), true)) ∧ (G_MO 26 = some (5, 9, (.array .int), true)) ∧ (G_MO 29 = some (5, 10, .int, false)) ∧ (G_MO 32 = some (5, 12, (.array .int), true)) ∧ (G_MO 35 = some (5, 13, (.array .int), true)) ∧ (G_MO 38 = some (5, 14, .int, false)) ∧ (G_MO 41 = some (5, 16, (.array .int), true)) ∧ (G_MO 44 = some (5, 17, .int, false)) ∧ (G_MO 47 = some (5, 18, .int, false)) ∧ (G_MO 50 = some (5, 19, (.array .int), true)) ∧ (G_MO 53 = some (5, 20, (.array .int), true)) ∧ (G_MO 56 = some (5, 21, (.array .int), true)) ∧ (G_MO 59 = some (5, 0, .int, false)) ∧ (G_MO 70 = some (5, 1, .int, false)) ∧ (G_MO 73 = some (5, 2, .int, false)) ∧ (G_MO 76 = some (5, 8, .boolean, false)) ∧ (G_MO 80 = some (5, 11, .boolean, false)) ∧ (G_MO 83 = some (5, 15, .int, false)) := ⟨rfl, rfl, rfl, rfl, rfl, rfl, rfl, rfl, rfl, rfl, rfl, rfl, rfl, rfl, rfl, rfl, rfl, rfl, rfl, rfl, rfl, rfl⟩
theorem G_MO_ok {w : Cond} : ∀ idx ci kf ty fin, G_MO idx = some (ci, kf, ty, fin) → zFok (w :: wsG) zcl "PlaceTestsModel" false idx ci kf ty fin := by
  intro idx ci kf ty fin h
  unfold G_MO at h
  split at h
  · cases h; exact ⟨"PlaceTestsModel", F_MO, 22, t_MO, rfl, by decide, fun w hw => List.mem_cons_of_mem _ (u_MO_in w hw), t_MO_ok, rfl, n_MO, rfl, Or.inl ⟨List.mem_cons_of_mem _ kf_MO_7, fun _ => rfl⟩⟩
  · cases h; exact ⟨"PlaceTestsModel", F_MO, 22, t_MO, rfl, by decide, fun w hw => List.mem_cons_of_mem _ (u_MO_in w hw), t_MO_ok, rfl, n_MO, rfl, Or.inl ⟨List.mem_cons_of_mem _ kf_MO_13, fun _ => rfl⟩⟩
  · cases h; exact ⟨"PlaceTestsModel", F_MO, 22, t_MO, rfl, by decide, fun w hw => List.mem_cons_of_mem _ (u_MO_in w hw), t_MO_ok, rfl, n_MO, rfl, Or.inl ⟨List.mem_cons_of_mem _ kf_MO_16, fun _ => rfl⟩⟩
  · cases h; exact ⟨"PlaceTestsModel", F_MO, 22, t_MO, rfl, by decide, fun w hw => List.mem_cons_of_mem _ (u_MO_in w hw), t_MO_ok, rfl, n_MO, rfl, Or.inl ⟨List.mem_cons_of_mem _ kf_MO_20, fun _ => rfl⟩⟩
  · cases h; exact ⟨"PlaceTestsModel", F_MO, 22, t_MO, rfl, by decide, fun w hw => List.mem_cons_of_mem _ (u_MO_in w hw), t_MO_ok, rfl, n_MO, rfl, Or.inl ⟨List.mem_cons_of_mem _ kf_MO_23, fun _ => rfl⟩⟩
  · cases h; exact ⟨"PlaceTestsModel", F_MO, 22, t_MO, rfl, by decide, fun w hw => List.mem_cons_of_mem _ (u_MO_in w hw), t_MO_ok, rfl, n_MO, rfl, Or.inl ⟨List.mem_cons_of_mem _ kf_MO_26, fun _ => rfl⟩⟩
  · cases h; exact ⟨"PlaceTestsModel", F_MO, 22, t_MO, rfl, by decide, fun w hw => List.mem_cons_of_mem _ (u_MO_in w hw), t_MO_ok, rfl, n_MO, rfl, Or.inl ⟨List.mem_cons_of_mem _ kf_MO_29, fun _ => rfl⟩⟩
  · cases h; exact ⟨"PlaceTestsModel", F_MO, 22, t_MO, rfl, by decide, fun w hw => List.mem_cons_of_mem _ (u_MO_in w hw), t_MO_ok, rfl, n_MO, rfl, Or.inl ⟨List.mem_cons_of_mem _ kf_MO_32, fun _ => rfl⟩⟩
  · cases h; exact ⟨"PlaceTestsModel", F_MO, 22, t_MO, rfl, by decide, fun w hw => List.mem_cons_of_mem _ (u_MO_in w hw), t_MO_ok, rfl, n_MO, rfl, Or.inl ⟨List.mem_cons_of_mem _ kf_MO_35, fun _ => rfl⟩⟩
  · cases h; exact ⟨"PlaceTestsModel", F_MO, 22, t_MO, rfl, by decide, fun w hw => List.mem_cons_of_mem _ (u_MO_in w hw), t_MO_ok, rfl, n_MO, rfl, Or.inl ⟨List.mem_cons_of_mem _ kf_MO_38, fun _ => rfl⟩⟩
  · cases h; exact ⟨"PlaceTestsModel", F_MO, 22, t_MO, rfl, by decide, fun w hw => List.mem_cons_of_mem _ (u_MO_in w hw), t_MO_ok, rfl, n_MO, rfl, Or.inl ⟨List.mem_cons_of_mem _ kf_MO_41, fun _ => rfl⟩⟩
  · cases h; exact ⟨"PlaceTestsModel", F_MO, 22, t_MO, rfl, by decide, fun w hw => List.mem_cons_of_mem _ (u_MO_in w hw), t_MO_ok, rfl, n_MO, rfl, Or.inl ⟨List.mem_cons_of_mem _ kf_MO_44, fun _ => rfl⟩⟩
  · cases h; exact ⟨"PlaceTestsModel", F_MO, 22, t_MO, rfl, by decide, fun w hw => List.mem_cons_of_mem _ (u_MO_in w hw), t_MO_ok, rfl, n_MO, rfl, Or.inl ⟨List.mem_cons_of_mem _ kf_MO_47, fun _ => rfl⟩⟩
  · cases h; exact ⟨"PlaceTestsModel", F_MO, 22, t_MO, rfl, by decide, fun w hw => List.mem_cons_of_mem _ (u_MO_in w hw), t_MO_ok, rfl, n_MO, rfl, Or.inl ⟨List.mem_cons_of_mem _ kf_MO_50, fun _ => rfl⟩⟩
  · cases h; exact ⟨"PlaceTestsModel", F_MO, 22, t_MO, rfl, by decide, fun w hw => List.mem_cons_of_mem _ (u_MO_in w hw), t_MO_ok, rfl, n_MO, rfl, Or.inl ⟨List.mem_cons_of_mem _ kf_MO_53, fun _ => rfl⟩⟩
  · cases h; exact ⟨"PlaceTestsModel", F_MO, 22, t_MO, rfl, by decide, fun w hw => List.mem_cons_of_mem _ (u_MO_in w hw), t_MO_ok, rfl, n_MO, rfl, Or.inl ⟨List.mem_cons_of_mem _ kf_MO_56, fun _ => rfl⟩⟩
  · cases h; exact ⟨"PlaceTestsModel", F_MO, 22, t_MO, rfl, by decide, fun w hw => List.mem_cons_of_mem _ (u_MO_in w hw), t_MO_ok, rfl, n_MO, rfl, Or.inl ⟨List.mem_cons_of_mem _ kf_MO_59, fun _ => rfl⟩⟩
  · cases h; exact ⟨"PlaceTestsModel", F_MO, 22, t_MO, rfl, by decide, fun w hw => List.mem_cons_of_mem _ (u_MO_in w hw), t_MO_ok, rfl, n_MO, rfl, Or.inl ⟨List.mem_cons_of_mem _ kf_MO_70, fun _ => rfl⟩⟩
  · cases h; exact ⟨"PlaceTestsModel", F_MO, 22, t_MO, rfl, by decide, fun w hw => List.mem_cons_of_mem _ (u_MO_in w hw), t_MO_ok, rfl, n_MO, rfl, Or.inl ⟨List.mem_cons_of_mem _ kf_MO_73, fun _ => rfl⟩⟩
  · cases h; exact ⟨"PlaceTestsModel", F_MO, 22, t_MO, rfl, by decide, fun w hw => List.mem_cons_of_mem _ (u_MO_in w hw), t_MO_ok, rfl, n_MO, rfl, Or.inl ⟨List.mem_cons_of_mem _ kf_MO_76, fun _ => rfl⟩⟩
  · cases h; exact ⟨"PlaceTestsModel", F_MO, 22, t_MO, rfl, by decide, fun w hw => List.mem_cons_of_mem _ (u_MO_in w hw), t_MO_ok, rfl, n_MO, rfl, Or.inl ⟨List.mem_cons_of_mem _ kf_MO_80, fun _ => rfl⟩⟩
  · cases h; exact ⟨"PlaceTestsModel", F_MO, 22, t_MO, rfl, by decide, fun w hw => List.mem_cons_of_mem _ (u_MO_in w hw), t_MO_ok, rfl, n_MO, rfl, Or.inl ⟨List.mem_cons_of_mem _ kf_MO_83, fun _ => rfl⟩⟩
  · cases h
def G_MO_c : Nat → Option (Nat × Nat × FieldType × Bool) := fun i => match i with
  | 7 => some (5, 3, .int, false)
  | 13 => some (5, 4, .int, false)
  | 16 => some (5, 5, (.array .int), true)
  | 20 => some (5, 6, (.array .int), true)
  | 23 => some (5, 7, (.array .int), true)
  | 26 => some (5, 9, (.array .int), true)
  | 29 => some (5, 10, .int, false)
  | 32 => some (5, 12, (.array .int), true)
  | 35 => some (5, 13, (.array .int), true)
  | 38 => some (5, 14, .int, false)
  | 41 => some (5, 16, (.array .int), true)
  | 44 => some (5, 17, .int, false)
  | 47 => some (5, 18, .int, false)
  | 50 => some (5, 19, (.array .int), true)
  | 53 => some (5, 20, (.array .int), true)
  | 56 => some (5, 21, (.array .int), true)
  | 59 => some (5, 0, .int, false)
  | 70 => some (5, 1, .int, false)
  | 73 => some (5, 2, .int, false)
  | 76 => some (5, 8, .boolean, false)
  | 80 => some (5, 11, .boolean, false)
  | 83 => some (5, 15, .int, false)
  | _ => none
theorem G_MO_c_k : (G_MO_c 7 = some (5, 3, .int, false)) ∧ (G_MO_c 13 = some (5, 4, .int, false)) ∧ (G_MO_c 16 = some (5, 5, (.array .int), true)) ∧ (G_MO_c 20 = some (5, 6, (.array .int), true)) ∧ (G_MO_c 23 = some (5, 7, (.array .int), true)) ∧ (G_MO_c 26 = some (5, 9, (.array .int), true)) ∧ (G_MO_c 29 = some (5, 10, .int, false)) ∧ (G_MO_c 32 = some (5, 12, (.array .int), true)) ∧ (G_MO_c 35 = some (5, 13, (.array .int), true)) ∧ (G_MO_c 38 = some (5, 14, .int, false)) ∧ (G_MO_c 41 = some (5, 16, (.array .int), true)) ∧ (G_MO_c 44 = some (5, 17, .int, false)) ∧ (G_MO_c 47 = some (5, 18, .int, false)) ∧ (G_MO_c 50 = some (5, 19, (.array .int), true)) ∧ (G_MO_c 53 = some (5, 20, (.array .int), true)) ∧ (G_MO_c 56 = some (5, 21, (.array .int), true)) ∧ (G_MO_c 59 = some (5, 0, .int, false)) ∧ (G_MO_c 70 = some (5, 1, .int, false)) ∧ (G_MO_c 73 = some (5, 2, .int, false)) ∧ (G_MO_c 76 = some (5, 8, .boolean, false)) ∧ (G_MO_c 80 = some (5, 11, .boolean, false)) ∧ (G_MO_c 83 = some (5, 15, .int, false)) := ⟨rfl, rfl, rfl, rfl, rfl, rfl, rfl, rfl, rfl, rfl, rfl, rfl, rfl, rfl, rfl, rfl, rfl, rfl, rfl, rfl, rfl, rfl⟩
theorem G_MO_c_ok {w : Cond} : ∀ idx ci kf ty fin, G_MO_c idx = some (ci, kf, ty, fin) → zFok (w :: wsG) zcl "PlaceTestsModel" true idx ci kf ty fin := by
  intro idx ci kf ty fin h
  unfold G_MO_c at h
  split at h
  · cases h; exact ⟨"PlaceTestsModel", F_MO, 22, t_MO, rfl, by decide, fun w hw => List.mem_cons_of_mem _ (u_MO_in w hw), t_MO_ok, rfl, n_MO, rfl, Or.inl ⟨List.mem_cons_of_mem _ kf_MO_7, fun _ => rfl⟩⟩
  · cases h; exact ⟨"PlaceTestsModel", F_MO, 22, t_MO, rfl, by decide, fun w hw => List.mem_cons_of_mem _ (u_MO_in w hw), t_MO_ok, rfl, n_MO, rfl, Or.inl ⟨List.mem_cons_of_mem _ kf_MO_13, fun _ => rfl⟩⟩
  · cases h; exact ⟨"PlaceTestsModel", F_MO, 22, t_MO, rfl, by decide, fun w hw => List.mem_cons_of_mem _ (u_MO_in w hw), t_MO_ok, rfl, n_MO, rfl, Or.inl ⟨List.mem_cons_of_mem _ kf_MO_16, fun _ => rfl⟩⟩
  · cases h; exact ⟨"PlaceTestsModel", F_MO, 22, t_MO, rfl, by decide, fun w hw => List.mem_cons_of_mem _ (u_MO_in w hw), t_MO_ok, rfl, n_MO, rfl, Or.inl ⟨List.mem_cons_of_mem _ kf_MO_20, fun _ => rfl⟩⟩
  · cases h; exact ⟨"PlaceTestsModel", F_MO, 22, t_MO, rfl, by decide, fun w hw => List.mem_cons_of_mem _ (u_MO_in w hw), t_MO_ok, rfl, n_MO, rfl, Or.inl ⟨List.mem_cons_of_mem _ kf_MO_23, fun _ => rfl⟩⟩
  · cases h; exact ⟨"PlaceTestsModel", F_MO, 22, t_MO, rfl, by decide, fun w hw => List.mem_cons_of_mem _ (u_MO_in w hw), t_MO_ok, rfl, n_MO, rfl, Or.inl ⟨List.mem_cons_of_mem _ kf_MO_26, fun _ => rfl⟩⟩
  · cases h; exact ⟨"PlaceTestsModel", F_MO, 22, t_MO, rfl, by decide, fun w hw => List.mem_cons_of_mem _ (u_MO_in w hw), t_MO_ok, rfl, n_MO, rfl, Or.inl ⟨List.mem_cons_of_mem _ kf_MO_29, fun _ => rfl⟩⟩
  · cases h; exact ⟨"PlaceTestsModel", F_MO, 22, t_MO, rfl, by decide, fun w hw => List.mem_cons_of_mem _ (u_MO_in w hw), t_MO_ok, rfl, n_MO, rfl, Or.inl ⟨List.mem_cons_of_mem _ kf_MO_32, fun _ => rfl⟩⟩
  · cases h; exact ⟨"PlaceTestsModel", F_MO, 22, t_MO, rfl, by decide, fun w hw => List.mem_cons_of_mem _ (u_MO_in w hw), t_MO_ok, rfl, n_MO, rfl, Or.inl ⟨List.mem_cons_of_mem _ kf_MO_35, fun _ => rfl⟩⟩
  · cases h; exact ⟨"PlaceTestsModel", F_MO, 22, t_MO, rfl, by decide, fun w hw => List.mem_cons_of_mem _ (u_MO_in w hw), t_MO_ok, rfl, n_MO, rfl, Or.inl ⟨List.mem_cons_of_mem _ kf_MO_38, fun _ => rfl⟩⟩
  · cases h; exact ⟨"PlaceTestsModel", F_MO, 22, t_MO, rfl, by decide, fun w hw => List.mem_cons_of_mem _ (u_MO_in w hw), t_MO_ok, rfl, n_MO, rfl, Or.inl ⟨List.mem_cons_of_mem _ kf_MO_41, fun _ => rfl⟩⟩
  · cases h; exact ⟨"PlaceTestsModel", F_MO, 22, t_MO, rfl, by decide, fun w hw => List.mem_cons_of_mem _ (u_MO_in w hw), t_MO_ok, rfl, n_MO, rfl, Or.inl ⟨List.mem_cons_of_mem _ kf_MO_44, fun _ => rfl⟩⟩
  · cases h; exact ⟨"PlaceTestsModel", F_MO, 22, t_MO, rfl, by decide, fun w hw => List.mem_cons_of_mem _ (u_MO_in w hw), t_MO_ok, rfl, n_MO, rfl, Or.inl ⟨List.mem_cons_of_mem _ kf_MO_47, fun _ => rfl⟩⟩
  · cases h; exact ⟨"PlaceTestsModel", F_MO, 22, t_MO, rfl, by decide, fun w hw => List.mem_cons_of_mem _ (u_MO_in w hw), t_MO_ok, rfl, n_MO, rfl, Or.inl ⟨List.mem_cons_of_mem _ kf_MO_50, fun _ => rfl⟩⟩
  · cases h; exact ⟨"PlaceTestsModel", F_MO, 22, t_MO, rfl, by decide, fun w hw => List.mem_cons_of_mem _ (u_MO_in w hw), t_MO_ok, rfl, n_MO, rfl, Or.inl ⟨List.mem_cons_of_mem _ kf_MO_53, fun _ => rfl⟩⟩
  · cases h; exact ⟨"PlaceTestsModel", F_MO, 22, t_MO, rfl, by decide, fun w hw => List.mem_cons_of_mem _ (u_MO_in w hw), t_MO_ok, rfl, n_MO, rfl, Or.inl ⟨List.mem_cons_of_mem _ kf_MO_56, fun _ => rfl⟩⟩
  · cases h; exact ⟨"PlaceTestsModel", F_MO, 22, t_MO, rfl, by decide, fun w hw => List.mem_cons_of_mem _ (u_MO_in w hw), t_MO_ok, rfl, n_MO, rfl, Or.inl ⟨List.mem_cons_of_mem _ kf_MO_59, fun _ => rfl⟩⟩
  · cases h; exact ⟨"PlaceTestsModel", F_MO, 22, t_MO, rfl, by decide, fun w hw => List.mem_cons_of_mem _ (u_MO_in w hw), t_MO_ok, rfl, n_MO, rfl, Or.inl ⟨List.mem_cons_of_mem _ kf_MO_70, fun _ => rfl⟩⟩
  · cases h; exact ⟨"PlaceTestsModel", F_MO, 22, t_MO, rfl, by decide, fun w hw => List.mem_cons_of_mem _ (u_MO_in w hw), t_MO_ok, rfl, n_MO, rfl, Or.inl ⟨List.mem_cons_of_mem _ kf_MO_73, fun _ => rfl⟩⟩
  · cases h; exact ⟨"PlaceTestsModel", F_MO, 22, t_MO, rfl, by decide, fun w hw => List.mem_cons_of_mem _ (u_MO_in w hw), t_MO_ok, rfl, n_MO, rfl, Or.inl ⟨List.mem_cons_of_mem _ kf_MO_76, fun _ => rfl⟩⟩
  · cases h; exact ⟨"PlaceTestsModel", F_MO, 22, t_MO, rfl, by decide, fun w hw => List.mem_cons_of_mem _ (u_MO_in w hw), t_MO_ok, rfl, n_MO, rfl, Or.inl ⟨List.mem_cons_of_mem _ kf_MO_80, fun _ => rfl⟩⟩
  · cases h; exact ⟨"PlaceTestsModel", F_MO, 22, t_MO, rfl, by decide, fun w hw => List.mem_cons_of_mem _ (u_MO_in w hw), t_MO_ok, rfl, n_MO, rfl, Or.inl ⟨List.mem_cons_of_mem _ kf_MO_83, fun _ => rfl⟩⟩
  · cases h
end
section
def CS_PT : Nat → Option Int32 := fun i => match i with
  | 260 => some 16777215
  | _ => none
theorem CS_PT_k : (CS_PT 260 = some 16777215) := rfl
theorem CS_PT_ok {w : Cond} : ∀ i v, CS_PT i = some v → Cond.constant "PlaceTests" i v ∈ w :: wsG := by
  intro i v h
  unfold CS_PT at h
  split at h
  · cases h; exact List.mem_cons_of_mem _ kc_PT_260
  · cases h
def CS_CO : Nat → Option Int32 := fun i => match i with
  | 19 => some 65536
  | 29 => some 32768
  | _ => none
theorem CS_CO_k : (CS_CO 19 = some 65536) ∧ (CS_CO 29 = some 32768) := ⟨rfl, rfl⟩
theorem CS_CO_ok {w : Cond} : ∀ i v, CS_CO i = some v → Cond.constant "PlaceTests$Colour" i v ∈ w :: wsG := by
  intro i v h
  unfold CS_CO at h
  split at h
  · cases h; exact List.mem_cons_of_mem _ kc_CO_19
  · cases h; exact List.mem_cons_of_mem _ kc_CO_29
  · cases h
def CS_MO : Nat → Option Int32 := fun i => match i with
  | 90 => some 16777215
  | 106 => some 65536
  | 107 => some 32768
  | _ => none
theorem CS_MO_k : (CS_MO 90 = some 16777215) ∧ (CS_MO 106 = some 65536) ∧ (CS_MO 107 = some 32768) := ⟨rfl, rfl, rfl⟩
theorem CS_MO_ok {w : Cond} : ∀ i v, CS_MO i = some v → Cond.constant "PlaceTestsModel" i v ∈ w :: wsG := by
  intro i v h
  unfold CS_MO at h
  split at h
  · cases h; exact List.mem_cons_of_mem _ kc_MO_90
  · cases h; exact List.mem_cons_of_mem _ kc_MO_106
  · cases h; exact List.mem_cons_of_mem _ kc_MO_107
  · cases h
def X_PT : Nat → Option (Nat × Nat) := fun i => match i with
  | 64 => some (6, 68)
  | 215 => some (7, 219)
  | _ => none
theorem X_a : ∀ w ∈ Cond.classLink "PlaceTests" 64 "java/lang/IllegalArgumentException" :: Cond.initialized "java/lang/IllegalArgumentException" :: vx_atS "PlaceTests" 68 "java/lang/IllegalArgumentException" ["java/lang/RuntimeException", "java/lang/Exception"], w ∈ wsG := wsG_all (by decide +kernel)
theorem X_b : ∀ w ∈ Cond.classLink "PlaceTests" 215 "java/lang/IndexOutOfBoundsException" :: Cond.initialized "java/lang/IndexOutOfBoundsException" :: vx_atS "PlaceTests" 219 "java/lang/IndexOutOfBoundsException" ["java/lang/RuntimeException", "java/lang/Exception"], w ∈ wsG := wsG_all (by decide +kernel)
theorem X_a2 : ∀ w ∈ Cond.classLink "PlaceTests" 64 "java/lang/IllegalArgumentException" :: Cond.initialized "java/lang/IllegalArgumentException" :: vx_atS "PlaceTests" 68 "java/lang/IllegalArgumentException" ["java/lang/RuntimeException", "java/lang/Exception"], vx_ot w = true := List.all_eq_true.mp (by decide +kernel)
theorem X_b2 : ∀ w ∈ Cond.classLink "PlaceTests" 215 "java/lang/IndexOutOfBoundsException" :: Cond.initialized "java/lang/IndexOutOfBoundsException" :: vx_atS "PlaceTests" 219 "java/lang/IndexOutOfBoundsException" ["java/lang/RuntimeException", "java/lang/Exception"], vx_ot w = true := List.all_eq_true.mp (by decide +kernel)
theorem X_PT_ok {w : Cond} : ∀ i ci ic, X_PT i = some (ci, ic) → zXok (w :: wsG) zcl "PlaceTests" i ci ic := by
  intro i ci ic h
  unfold X_PT at h
  split at h
  · cases h
    exact ⟨"java/lang/IllegalArgumentException", ["java/lang/RuntimeException", "java/lang/Exception"], F_no, rfl, by decide, by decide, by decide, List.mem_cons_of_mem _ (X_a _ List.mem_cons_self), List.mem_cons_of_mem _ (X_a _ (List.mem_cons_of_mem _ List.mem_cons_self)), fun w hw => List.mem_cons_of_mem _ (X_a w (List.mem_cons_of_mem _ (List.mem_cons_of_mem _ hw))), X_a2⟩
  · cases h
    exact ⟨"java/lang/IndexOutOfBoundsException", ["java/lang/RuntimeException", "java/lang/Exception"], F_no, rfl, by decide, by decide, by decide, List.mem_cons_of_mem _ (X_b _ List.mem_cons_self), List.mem_cons_of_mem _ (X_b _ (List.mem_cons_of_mem _ List.mem_cons_self)), fun w hw => List.mem_cons_of_mem _ (X_b w (List.mem_cons_of_mem _ (List.mem_cons_of_mem _ hw))), X_b2⟩
  · cases h
def SL_PT (j : Nat) : Bool := zstrs.any (fun x => x.1 == "PlaceTests" && x.2.1 == j)
theorem SL_PT_ok : ∀ j, SL_PT j = true → zSok "PlaceTests" j := by
  intro j h
  obtain ⟨x, hx, h⟩ := List.any_eq_true.mp h
  rw [Bool.and_eq_true] at h
  have e1 : x.1 = "PlaceTests" := eq_of_beq h.1
  have e2 : x.2.1 = j := eq_of_beq h.2
  obtain ⟨a, b, c⟩ := x
  subst e1
  subst e2
  exact ⟨c, hx⟩
def N_PT : Nat → Option (Nat × Nat × List Value) := fun i => match i with
  | 7 => some (1, 9, [.int 0, .null, .null, .null, .int 0, .int 0, .int 0, .int 0, .int 0])
  | 18 => some (2, 4, [.int 0, .int 0, .int 0, .int 0])
  | 33 => some (3, 7, [.int 0, .int 0, .int 0, .int 0, .int 0, .int 0, .int 0])
  | 43 => some (4, 7, [.int 0, .int 0, .int 0, .int 0, .int 0, .int 0, .int 0])
  | _ => none
theorem N_PT_ok {w : Cond} : ∀ idx ci n fs, N_PT idx = some (ci, n, fs) → zNok (w :: wsG) zcl "PlaceTests" idx ci n fs := by
  intro idx ci n fs h
  unfold N_PT at h
  split at h
  · cases h; exact ⟨"PlaceTests$Frame", F_FR, t_FR, rfl, fun w hw => List.mem_cons_of_mem _ (u_FR_in w hw), t_FR_ok, List.mem_cons_of_mem _ kk_PT_7, List.mem_cons_of_mem _ kt_FR, List.mem_cons_of_mem _ kn_FR, by decide +kernel, by simp⟩
  · cases h; exact ⟨"PlaceTests$Scissors", F_SC, t_SC, rfl, fun w hw => List.mem_cons_of_mem _ (u_SC_in w hw), t_SC_ok, List.mem_cons_of_mem _ kk_PT_18, List.mem_cons_of_mem _ kt_SC, List.mem_cons_of_mem _ kn_SC, by decide +kernel, by simp⟩
  · cases h; exact ⟨"PlaceTests$StencilRule", F_ST, t_ST, rfl, fun w hw => List.mem_cons_of_mem _ (u_ST_in w hw), t_ST_ok, List.mem_cons_of_mem _ kk_PT_33, List.mem_cons_of_mem _ kt_ST, List.mem_cons_of_mem _ kn_ST, by decide +kernel, by simp⟩
  · cases h; exact ⟨"PlaceTests$Blending", F_BL, t_BL, rfl, fun w hw => List.mem_cons_of_mem _ (u_BL_in w hw), t_BL_ok, List.mem_cons_of_mem _ kk_PT_43, List.mem_cons_of_mem _ kt_BL, List.mem_cons_of_mem _ kn_BL, by decide +kernel, by simp⟩
  · cases h
theorem N_PT_k : (N_PT 7 = some (1, 9, [.int 0, .null, .null, .null, .int 0, .int 0, .int 0, .int 0, .int 0])) ∧ (N_PT 18 = some (2, 4, [.int 0, .int 0, .int 0, .int 0])) ∧ (N_PT 33 = some (3, 7, [.int 0, .int 0, .int 0, .int 0, .int 0, .int 0, .int 0])) ∧ (N_PT 43 = some (4, 7, [.int 0, .int 0, .int 0, .int 0, .int 0, .int 0, .int 0])) ∧ (X_PT 64 = some (6, 68)) ∧ (X_PT 215 = some (7, 219)) ∧ (X_PT 7 = none) ∧ (SL_PT 66 = true) ∧ (SL_PT 71 = true) ∧ (SL_PT 92 = true) ∧ (SL_PT 98 = true) ∧ (SL_PT 110 = true) ∧ (SL_PT 115 = true) ∧ (SL_PT 141 = true) ∧ (SL_PT 143 = true) ∧ (SL_PT 163 = true) ∧ (SL_PT 165 = true) ∧ (SL_PT 173 = true) ∧ (SL_PT 178 = true) ∧ (SL_PT 180 = true) ∧ (SL_PT 213 = true) ∧ (SL_PT 217 = true) ∧ (SL_PT 224 = true) ∧ (∀ i, zXn i = none) := ⟨rfl, rfl, rfl, rfl, rfl, rfl, rfl, by decide +kernel, by decide +kernel, by decide +kernel, by decide +kernel, by decide +kernel, by decide +kernel, by decide +kernel, by decide +kernel, by decide +kernel, by decide +kernel, by decide +kernel, by decide +kernel, by decide +kernel, by decide +kernel, by decide +kernel, by decide +kernel, fun _ => rfl⟩
def N_LA : Nat → Option (Nat × Nat × List Value) := fun i => match i with
  | 8 => some (0, 10, [.null, .null, .int 0, .int 0, .null, .null, .null, .int 0, .int 0, .null])
  | 56 => some (5, 22, [.int 0, .int 0, .int 0, .int 0, .int 0, .null, .null, .null, .int 0, .null, .int 0, .int 0, .null, .null, .int 0, .int 0, .null, .int 0, .int 0, .null, .null, .null])
  | _ => none
theorem N_LA_ok {w : Cond} : ∀ idx ci n fs, N_LA idx = some (ci, n, fs) → zNok (w :: wsG) zcl "PlaceTestsLaw" idx ci n fs := by
  intro idx ci n fs h
  unfold N_LA at h
  split at h
  · cases h; exact ⟨"PlaceTests", F_PT, t_PT, rfl, fun w hw => List.mem_cons_of_mem _ (u_PT_in w hw), t_PT_ok, List.mem_cons_of_mem _ kk_LA_8, List.mem_cons_of_mem _ kt_PT, List.mem_cons_of_mem _ kn_PT, by decide +kernel, by simp⟩
  · cases h; exact ⟨"PlaceTestsModel", F_MO, t_MO, rfl, fun w hw => List.mem_cons_of_mem _ (u_MO_in w hw), t_MO_ok, List.mem_cons_of_mem _ kk_LA_56, List.mem_cons_of_mem _ kt_MO, List.mem_cons_of_mem _ kn_MO, by decide +kernel, by simp⟩
  · cases h
theorem N_LA_k : (N_LA 8 = some (0, 10, [.null, .null, .int 0, .int 0, .null, .null, .null, .int 0, .int 0, .null])) ∧ (N_LA 56 = some (5, 22, [.int 0, .int 0, .int 0, .int 0, .int 0, .null, .null, .null, .int 0, .null, .int 0, .int 0, .null, .null, .int 0, .int 0, .null, .int 0, .int 0, .null, .null, .null])) ∧ (∀ i, zXn i = none) := ⟨rfl, rfl, fun _ => rfl⟩
end
section
theorem zti (x : Int32) : ((x.toInt = 0) = (x = 0)) ∧ ((x.toInt = 1) = (x = 1)) ∧ ((x.toInt = 2) = (x = 2)) ∧ ((x.toInt = 3) = (x = 3)) ∧ ((x.toInt = 4) = (x = 4)) ∧ ((x.toInt = 5) = (x = 5)) ∧ ((x.toInt = 6) = (x = 6)) ∧ ((x.toInt = 7) = (x = 7)) ∧ ((x.toInt = 8) = (x = 8)) ∧ ((x.toInt = 9) = (x = 9)) ∧ ((x.toInt = 10) = (x = 10)) ∧ ((x.toInt = 11) = (x = 11)) ∧ ((x.toInt = 12) = (x = 12)) ∧ ((x.toInt = 13) = (x = 13)) ∧ ((x.toInt = 14) = (x = 14)) ∧ ((x.toInt = 15) = (x = 15)) := ⟨propext ⟨fun h => Int32.toInt_inj.mp h, fun h => by rw [h]; rfl⟩, propext ⟨fun h => Int32.toInt_inj.mp h, fun h => by rw [h]; rfl⟩, propext ⟨fun h => Int32.toInt_inj.mp h, fun h => by rw [h]; rfl⟩, propext ⟨fun h => Int32.toInt_inj.mp h, fun h => by rw [h]; rfl⟩, propext ⟨fun h => Int32.toInt_inj.mp h, fun h => by rw [h]; rfl⟩, propext ⟨fun h => Int32.toInt_inj.mp h, fun h => by rw [h]; rfl⟩, propext ⟨fun h => Int32.toInt_inj.mp h, fun h => by rw [h]; rfl⟩, propext ⟨fun h => Int32.toInt_inj.mp h, fun h => by rw [h]; rfl⟩, propext ⟨fun h => Int32.toInt_inj.mp h, fun h => by rw [h]; rfl⟩, propext ⟨fun h => Int32.toInt_inj.mp h, fun h => by rw [h]; rfl⟩, propext ⟨fun h => Int32.toInt_inj.mp h, fun h => by rw [h]; rfl⟩, propext ⟨fun h => Int32.toInt_inj.mp h, fun h => by rw [h]; rfl⟩, propext ⟨fun h => Int32.toInt_inj.mp h, fun h => by rw [h]; rfl⟩, propext ⟨fun h => Int32.toInt_inj.mp h, fun h => by rw [h]; rfl⟩, propext ⟨fun h => Int32.toInt_inj.mp h, fun h => by rw [h]; rfl⟩, propext ⟨fun h => Int32.toInt_inj.mp h, fun h => by rw [h]; rfl⟩⟩
theorem zKi (K : zO → zH → Prop) (h : zH) {c : Prop} [Decidable c] (a b : Int32) : K (.inl (some (.int (if c then a else b)))) h = ((c → K (.inl (some (.int a))) h) ∧ (¬ c → K (.inl (some (.int b))) h)) := by
  by_cases z : c
  · simp [z]
  · simp [z]
theorem zf3 : ((3 : Fin 4) : Nat) = 3 := rfl
theorem zif0 {c : Prop} [Decidable c] : ((if c then (1 : Int32) else 0) = 0) = ¬ c := by
  by_cases h : c
  · simp [h]
  · simp [h]
def f_wi (n a b : Int32) : Int32 := if n < a then 0 else if b < n then 0 else 1
theorem f_wi_0 (n a b : Int32) : (f_wi n a b = 0) = ¬ (a ≤ n ∧ n ≤ b) := by
  unfold f_wi
  by_cases h1 : n < a
  · simp [h1, Int32.not_le.mpr h1]
  · by_cases h2 : b < n
    · simp [h1, h2, Int32.not_le.mpr h2]
    · simp [h1, h2, Int32.not_lt.mp h1, Int32.not_lt.mp h2]
theorem znr_wi (n a b : Int32) : znr (some .boolean) (some (.int (f_wi n a b))) = True := by
  unfold f_wi
  split
  · exact znr_0
  · split
    · exact znr_0
    · exact znr_1
def T_PT_isWithin : ClassId → ClassId → zT := fun _ _ as h K => match as with
  | [.int n, .int a, .int b] => K (.inl (some (.int (f_wi n a b)))) h
  | _ => False
set_option maxHeartbeats 4000000 in
set_option maxRecDepth 100000 in
theorem C_PT_isWithin {l : Launch} (hl : l.stackTraces = false) : zC l y_PT_isWithin (Cond.code y_PT_isWithin prog_1_method_19_code 3 (some .boolean) :: wsG) (rmL 1 0 0) zcl true 0 0 T_PT_isWithin := by
  refine zC_of (G := zGn) (E := zEn0) (X := zXn) (SL := zSn) (NW := zNn) (CS := zCn) (ctor := false) hl (by decide) rfl rfl rfl (fun _ _ _ _ _ z => by cases z) (fun z => by cases z) (fun _ _ z => by cases z) (fun _ _ _ _ z => by cases z) (List.mem_cons_of_mem _ ka_i) (fun _ _ _ z => by cases z) (fun _ z => by cases z) (fun _ _ _ _ _ _ _ _ _ _ _ _ _ _ _ _ _ _ _ _ _ _ _ z => by cases z) ?_
  intro cI cL as h K hT
  match as, hT with
  | [.int n, .int a, .int b], hT =>
  have hT : K (.inl (some (.int (f_wi n a b)))) h := hT
  refine ⟨by simp [Value.category], by simp, fun Jd hc => zw_sound (J := fun _ => none) hc (fun _ _ z => by cases z) 15 0 _ _ _ _ _ _ ?_⟩
  simp (maxSteps := 4000000) only [zlc, zif0, zf3, D_PT_isWithin, Classical.not_not, zw_S, zk_iconst, zk_bipush, zk_sipush, zk_ldc, zk_ldc_w, zk_aconst_null, zk_iload_n, zk_iload, zk_aload_n, zk_aload, zk_istore_n, zk_istore, zk_astore_n, zk_astore, zk_iinc, zk_iadd, zk_isub, zk_imul, zk_idiv, zk_iand, zk_ior, zk_ixor, zk_ishl, zk_ishr, zk_iushr, zk_i2l, zk_lcmp, zk_dup, zk_pop, zk_dup_x1, zk_dup2, zk_dup_x2, zk_goto, zk_ifCond, zk_if_icmp, zk_tableswitch, zk_getfield, zk_putfield, zk_iaload, zk_iastore, zk_laload, zk_lastore, zk_arraylength, zk_invokestatic, zk_invokevirtual, zk_invokespecial, zk_new, zk_newarray, zk_ireturn, zk_areturn, zk_return_, zi1_k, zi2_k, zr1_k, zri_k, zrii_k, zril_k, zvr_k, zl2_k, zv1_k, zv2_k, zv3_k, zli_k, zlr_k, zob_k, zai_k, zal_k, zfv_k, zlim_k, zlrm_k, zobm_k, zaim_k, zalm_k, zfvm_k, zgetf_k, zput_k, zcal_k, zrv_n, zrv_s, zswT_n, zswT_c, zgo_k, zcc_eq, zcc_ne, zcc_lt, zcc_ge, zcc_gt, zcc_le, zldj_k, zexc_k, znew_k, zial_k, zct_i, zct_l, zct_r, zct_n, zKK_r, zKK_x, znr_i, znr_0, znr_1, znr_v, znr_a, znr_o, znar_i, znar_r, znar_a, zfit_i, zfit_r, zfit_a, zbc, zlit, eq_self, List.getElem?_cons_zero, List.getElem?_cons_succ, List.set_cons_zero, List.set_cons_succ, List.take_succ_cons, List.take_zero, List.drop_succ_cons, List.drop_zero, List.reverse_cons, List.reverse_nil, List.nil_append, List.cons_append, List.append_nil, List.length_cons, List.length_nil, List.map_cons, List.map_nil, List.sum_cons, List.sum_nil, Option.toList_some, Option.toList_none, Nat.zero_add, Nat.add_zero, Bool.or_false, Bool.false_or, Bool.or_true, Bool.true_or, Bool.not_true, Bool.not_false, ge_iff_le, Fin.isValue, Fin.val_zero, Fin.val_one, Fin.val_two, true_and, and_true, true_implies, false_implies, forall_const, if_true, if_false, ite_true, ite_false, reduceIte, reduceCtorEq, true_or, or_true, and_self, implies_true, not_false_eq_true, not_true_eq_false, Nat.le_refl, Nat.zero_le, and_false, false_and, Nat.reduceAdd, Nat.reduceSub, Nat.reduceLT, Nat.reduceLeDiff, Nat.reduceMul, Nat.reduceEqDiff, Int.reduceAdd, Int.reduceNeg, Int.reduceToNat, Int.reduceLE, Int.reduceNatCast, Int.reduceSub, Int.reduceLT, Int.reduceEq, List.replicate_zero, List.replicate_succ, Int.reduceNatCast', Int32.reduceOfInt, Int32.reduceLT, Int32.reduceLE, Int32.reduceAdd, Int32.reduceSub, Int32.reduceMul, Int32.reduceToInt, Int32.reduceToNatClampNeg]
  repeat' (first | (intro _) | (apply And.intro))
  all_goals (first | exact hT | (simp only [f_wi, *, if_true, if_false, reduceIte, not_true_eq_false, not_false_eq_true] at hT; exact hT) | (simp [f_wi, *] at hT; exact hT) | (simp [f_wi, *] at hT ⊢; exact hT) | (simp_all [f_wi]; done))
def T_PT_isByte : ClassId → ClassId → zT := fun _ _ as h K => match as with
  | [.int n] => K (.inl (some (.int (f_wi n 0 255)))) h
  | _ => False
def E_PT_isByte : ClassId → ClassId → Nat → Nat → Option zEn := fun cI cL kd i => match kd, i with
  | 0, 60 => some (3, none, true, true, 0, 0, T_PT_isWithin cI cL)
  | _, _ => none
theorem E_PT_isByte_k : (∀ cI cL, E_PT_isByte cI cL 0 60 = some (3, none, true, true, 0, 0, T_PT_isWithin cI cL)) := fun _ _ => rfl
set_option maxHeartbeats 4000000 in
set_option maxRecDepth 100000 in
theorem C_PT_isByte {l : Launch} (hl : l.stackTraces = false) : zC l y_PT_isByte (Cond.code y_PT_isByte prog_1_method_20_code 1 (some .boolean) :: wsG) (rmL 2 0 0) zcl true 0 0 T_PT_isByte := by
  refine zC_of (G := zGn) (E := E_PT_isByte) (X := zXn) (SL := zSn) (NW := zNn) (CS := zCn) (ctor := false) hl (by decide) rfl rfl rfl (fun _ _ _ _ _ z => by cases z) (fun z => by cases z) (fun _ _ z => by cases z) (fun _ _ _ _ z => by cases z) (List.mem_cons_of_mem _ ka_i) (fun _ _ _ z => by cases z) (fun _ z => by cases z) (by
    intro p e s m args below meth c D A cI cL hx hb hml hown hts hK hA hEX kd idx en hE
    unfold E_PT_isByte at hE
    split at hE
    · cases hE; exact zRow_S (C_PT_isWithin hl) rfl (Or.inl ⟨_, _, rfl⟩) hx hb hml hown hts hK hA hEX (hin_c kb_PT_isWithin) (List.mem_cons_of_mem _ kn_PT) (List.mem_cons_of_mem _ ks_PT_isWithin) (Or.inl (List.mem_cons_of_mem _ km_PT_60)) (by decide) (by decide) (by decide) rfl rfl
    · cases hE) ?_
  intro cI cL as h K hT
  match as, hT with
  | [.int n], hT =>
  have hT : K (.inl (some (.int (f_wi n 0 255)))) h := hT
  refine ⟨by simp [Value.category], by simp, fun Jd hc => zw_sound (J := fun _ => none) hc (fun _ _ z => by cases z) 10 0 _ _ _ _ _ _ ?_⟩
  simp (maxSteps := 4000000) only [zlc, zif0, zf3, D_PT_isByte, E_PT_isByte_k, T_PT_isWithin, f_wi_0, znr_wi, Classical.not_not, zw_S, zk_iconst, zk_bipush, zk_sipush, zk_ldc, zk_ldc_w, zk_aconst_null, zk_iload_n, zk_iload, zk_aload_n, zk_aload, zk_istore_n, zk_istore, zk_astore_n, zk_astore, zk_iinc, zk_iadd, zk_isub, zk_imul, zk_idiv, zk_iand, zk_ior, zk_ixor, zk_ishl, zk_ishr, zk_iushr, zk_i2l, zk_lcmp, zk_dup, zk_pop, zk_dup_x1, zk_dup2, zk_dup_x2, zk_goto, zk_ifCond, zk_if_icmp, zk_tableswitch, zk_getfield, zk_putfield, zk_iaload, zk_iastore, zk_laload, zk_lastore, zk_arraylength, zk_invokestatic, zk_invokevirtual, zk_invokespecial, zk_new, zk_newarray, zk_ireturn, zk_areturn, zk_return_, zi1_k, zi2_k, zr1_k, zri_k, zrii_k, zril_k, zvr_k, zl2_k, zv1_k, zv2_k, zv3_k, zli_k, zlr_k, zob_k, zai_k, zal_k, zfv_k, zlim_k, zlrm_k, zobm_k, zaim_k, zalm_k, zfvm_k, zgetf_k, zput_k, zcal_k, zrv_n, zrv_s, zswT_n, zswT_c, zgo_k, zcc_eq, zcc_ne, zcc_lt, zcc_ge, zcc_gt, zcc_le, zldj_k, zexc_k, znew_k, zial_k, zct_i, zct_l, zct_r, zct_n, zKK_r, zKK_x, znr_i, znr_0, znr_1, znr_v, znr_a, znr_o, znar_i, znar_r, znar_a, zfit_i, zfit_r, zfit_a, zbc, zlit, eq_self, List.getElem?_cons_zero, List.getElem?_cons_succ, List.set_cons_zero, List.set_cons_succ, List.take_succ_cons, List.take_zero, List.drop_succ_cons, List.drop_zero, List.reverse_cons, List.reverse_nil, List.nil_append, List.cons_append, List.append_nil, List.length_cons, List.length_nil, List.map_cons, List.map_nil, List.sum_cons, List.sum_nil, Option.toList_some, Option.toList_none, Nat.zero_add, Nat.add_zero, Bool.or_false, Bool.false_or, Bool.or_true, Bool.true_or, Bool.not_true, Bool.not_false, ge_iff_le, Fin.isValue, Fin.val_zero, Fin.val_one, Fin.val_two, true_and, and_true, true_implies, false_implies, forall_const, if_true, if_false, ite_true, ite_false, reduceIte, reduceCtorEq, true_or, or_true, and_self, implies_true, not_false_eq_true, not_true_eq_false, Nat.le_refl, Nat.zero_le, and_false, false_and, Nat.reduceAdd, Nat.reduceSub, Nat.reduceLT, Nat.reduceLeDiff, Nat.reduceMul, Nat.reduceEqDiff, Int.reduceAdd, Int.reduceNeg, Int.reduceToNat, Int.reduceLE, Int.reduceNatCast, Int.reduceSub, Int.reduceLT, Int.reduceEq, List.replicate_zero, List.replicate_succ, Int.reduceNatCast', Int32.reduceOfInt, Int32.reduceLT, Int32.reduceLE, Int32.reduceAdd, Int32.reduceSub, Int32.reduceMul, Int32.reduceToInt, Int32.reduceToNatClampNeg]
  exact hT
def T_PT_isDepth : ClassId → ClassId → zT := fun _ _ as h K => match as with
  | [.int n] => K (.inl (some (.int (f_wi n 0 16777215)))) h
  | _ => False
def E_PT_isDepth : ClassId → ClassId → Nat → Nat → Option zEn := fun cI cL kd i => match kd, i with
  | 0, 60 => some (3, none, true, true, 0, 0, T_PT_isWithin cI cL)
  | _, _ => none
theorem E_PT_isDepth_k : (∀ cI cL, E_PT_isDepth cI cL 0 60 = some (3, none, true, true, 0, 0, T_PT_isWithin cI cL)) := fun _ _ => rfl
set_option maxHeartbeats 4000000 in
set_option maxRecDepth 100000 in
theorem C_PT_isDepth {l : Launch} (hl : l.stackTraces = false) : zC l y_PT_isDepth (Cond.code y_PT_isDepth prog_1_method_21_code 1 (some .boolean) :: wsG) (rmL 2 0 0) zcl true 0 0 T_PT_isDepth := by
  refine zC_of (G := zGn) (E := E_PT_isDepth) (X := zXn) (SL := zSn) (NW := zNn) (CS := CS_PT) (ctor := false) hl (by decide) rfl rfl rfl (fun _ _ _ _ _ z => by cases z) (fun z => by cases z) CS_PT_ok (fun _ _ _ _ z => by cases z) (List.mem_cons_of_mem _ ka_i) (fun _ _ _ z => by cases z) (fun _ z => by cases z) (by
    intro p e s m args below meth c D A cI cL hx hb hml hown hts hK hA hEX kd idx en hE
    unfold E_PT_isDepth at hE
    split at hE
    · cases hE; exact zRow_S (C_PT_isWithin hl) rfl (Or.inl ⟨_, _, rfl⟩) hx hb hml hown hts hK hA hEX (hin_c kb_PT_isWithin) (List.mem_cons_of_mem _ kn_PT) (List.mem_cons_of_mem _ ks_PT_isWithin) (Or.inl (List.mem_cons_of_mem _ km_PT_60)) (by decide) (by decide) (by decide) rfl rfl
    · cases hE) ?_
  intro cI cL as h K hT
  match as, hT with
  | [.int n], hT =>
  have hT : K (.inl (some (.int (f_wi n 0 16777215)))) h := hT
  refine ⟨by simp [Value.category], by simp, fun Jd hc => zw_sound (J := fun _ => none) hc (fun _ _ z => by cases z) 10 0 _ _ _ _ _ _ ?_⟩
  simp (maxSteps := 4000000) only [zlc, zif0, zf3, D_PT_isDepth, E_PT_isDepth_k, T_PT_isWithin, f_wi_0, znr_wi, CS_PT_k, Classical.not_not, zw_S, zk_iconst, zk_bipush, zk_sipush, zk_ldc, zk_ldc_w, zk_aconst_null, zk_iload_n, zk_iload, zk_aload_n, zk_aload, zk_istore_n, zk_istore, zk_astore_n, zk_astore, zk_iinc, zk_iadd, zk_isub, zk_imul, zk_idiv, zk_iand, zk_ior, zk_ixor, zk_ishl, zk_ishr, zk_iushr, zk_i2l, zk_lcmp, zk_dup, zk_pop, zk_dup_x1, zk_dup2, zk_dup_x2, zk_goto, zk_ifCond, zk_if_icmp, zk_tableswitch, zk_getfield, zk_putfield, zk_iaload, zk_iastore, zk_laload, zk_lastore, zk_arraylength, zk_invokestatic, zk_invokevirtual, zk_invokespecial, zk_new, zk_newarray, zk_ireturn, zk_areturn, zk_return_, zi1_k, zi2_k, zr1_k, zri_k, zrii_k, zril_k, zvr_k, zl2_k, zv1_k, zv2_k, zv3_k, zli_k, zlr_k, zob_k, zai_k, zal_k, zfv_k, zlim_k, zlrm_k, zobm_k, zaim_k, zalm_k, zfvm_k, zgetf_k, zput_k, zcal_k, zrv_n, zrv_s, zswT_n, zswT_c, zgo_k, zcc_eq, zcc_ne, zcc_lt, zcc_ge, zcc_gt, zcc_le, zldj_k, zexc_k, znew_k, zial_k, zct_i, zct_l, zct_r, zct_n, zKK_r, zKK_x, znr_i, znr_0, znr_1, znr_v, znr_a, znr_o, znar_i, znar_r, znar_a, zfit_i, zfit_r, zfit_a, zbc, zlit, eq_self, List.getElem?_cons_zero, List.getElem?_cons_succ, List.set_cons_zero, List.set_cons_succ, List.take_succ_cons, List.take_zero, List.drop_succ_cons, List.drop_zero, List.reverse_cons, List.reverse_nil, List.nil_append, List.cons_append, List.append_nil, List.length_cons, List.length_nil, List.map_cons, List.map_nil, List.sum_cons, List.sum_nil, Option.toList_some, Option.toList_none, Nat.zero_add, Nat.add_zero, Bool.or_false, Bool.false_or, Bool.or_true, Bool.true_or, Bool.not_true, Bool.not_false, ge_iff_le, Fin.isValue, Fin.val_zero, Fin.val_one, Fin.val_two, true_and, and_true, true_implies, false_implies, forall_const, if_true, if_false, ite_true, ite_false, reduceIte, reduceCtorEq, true_or, or_true, and_self, implies_true, not_false_eq_true, not_true_eq_false, Nat.le_refl, Nat.zero_le, and_false, false_and, Nat.reduceAdd, Nat.reduceSub, Nat.reduceLT, Nat.reduceLeDiff, Nat.reduceMul, Nat.reduceEqDiff, Int.reduceAdd, Int.reduceNeg, Int.reduceToNat, Int.reduceLE, Int.reduceNatCast, Int.reduceSub, Int.reduceLT, Int.reduceEq, List.replicate_zero, List.replicate_succ, Int.reduceNatCast', Int32.reduceOfInt, Int32.reduceLT, Int32.reduceLE, Int32.reduceAdd, Int32.reduceSub, Int32.reduceMul, Int32.reduceToInt, Int32.reduceToNatClampNeg]
  exact hT
def T_PT_isSide : ClassId → ClassId → zT := fun _ _ as h K => match as with
  | [.int n] => K (.inl (some (.int (f_wi n 0 1)))) h
  | _ => False
def E_PT_isSide : ClassId → ClassId → Nat → Nat → Option zEn := fun cI cL kd i => match kd, i with
  | 0, 60 => some (3, none, true, true, 0, 0, T_PT_isWithin cI cL)
  | _, _ => none
theorem E_PT_isSide_k : (∀ cI cL, E_PT_isSide cI cL 0 60 = some (3, none, true, true, 0, 0, T_PT_isWithin cI cL)) := fun _ _ => rfl
set_option maxHeartbeats 4000000 in
set_option maxRecDepth 100000 in
theorem C_PT_isSide {l : Launch} (hl : l.stackTraces = false) : zC l y_PT_isSide (Cond.code y_PT_isSide prog_1_method_22_code 1 (some .boolean) :: wsG) (rmL 2 0 0) zcl true 0 0 T_PT_isSide := by
  refine zC_of (G := zGn) (E := E_PT_isSide) (X := zXn) (SL := zSn) (NW := zNn) (CS := zCn) (ctor := false) hl (by decide) rfl rfl rfl (fun _ _ _ _ _ z => by cases z) (fun z => by cases z) (fun _ _ z => by cases z) (fun _ _ _ _ z => by cases z) (List.mem_cons_of_mem _ ka_i) (fun _ _ _ z => by cases z) (fun _ z => by cases z) (by
    intro p e s m args below meth c D A cI cL hx hb hml hown hts hK hA hEX kd idx en hE
    unfold E_PT_isSide at hE
    split at hE
    · cases hE; exact zRow_S (C_PT_isWithin hl) rfl (Or.inl ⟨_, _, rfl⟩) hx hb hml hown hts hK hA hEX (hin_c kb_PT_isWithin) (List.mem_cons_of_mem _ kn_PT) (List.mem_cons_of_mem _ ks_PT_isWithin) (Or.inl (List.mem_cons_of_mem _ km_PT_60)) (by decide) (by decide) (by decide) rfl rfl
    · cases hE) ?_
  intro cI cL as h K hT
  match as, hT with
  | [.int n], hT =>
  have hT : K (.inl (some (.int (f_wi n 0 1)))) h := hT
  refine ⟨by simp [Value.category], by simp, fun Jd hc => zw_sound (J := fun _ => none) hc (fun _ _ z => by cases z) 10 0 _ _ _ _ _ _ ?_⟩
  simp (maxSteps := 4000000) only [zlc, zif0, zf3, D_PT_isSide, E_PT_isSide_k, T_PT_isWithin, f_wi_0, znr_wi, Classical.not_not, zw_S, zk_iconst, zk_bipush, zk_sipush, zk_ldc, zk_ldc_w, zk_aconst_null, zk_iload_n, zk_iload, zk_aload_n, zk_aload, zk_istore_n, zk_istore, zk_astore_n, zk_astore, zk_iinc, zk_iadd, zk_isub, zk_imul, zk_idiv, zk_iand, zk_ior, zk_ixor, zk_ishl, zk_ishr, zk_iushr, zk_i2l, zk_lcmp, zk_dup, zk_pop, zk_dup_x1, zk_dup2, zk_dup_x2, zk_goto, zk_ifCond, zk_if_icmp, zk_tableswitch, zk_getfield, zk_putfield, zk_iaload, zk_iastore, zk_laload, zk_lastore, zk_arraylength, zk_invokestatic, zk_invokevirtual, zk_invokespecial, zk_new, zk_newarray, zk_ireturn, zk_areturn, zk_return_, zi1_k, zi2_k, zr1_k, zri_k, zrii_k, zril_k, zvr_k, zl2_k, zv1_k, zv2_k, zv3_k, zli_k, zlr_k, zob_k, zai_k, zal_k, zfv_k, zlim_k, zlrm_k, zobm_k, zaim_k, zalm_k, zfvm_k, zgetf_k, zput_k, zcal_k, zrv_n, zrv_s, zswT_n, zswT_c, zgo_k, zcc_eq, zcc_ne, zcc_lt, zcc_ge, zcc_gt, zcc_le, zldj_k, zexc_k, znew_k, zial_k, zct_i, zct_l, zct_r, zct_n, zKK_r, zKK_x, znr_i, znr_0, znr_1, znr_v, znr_a, znr_o, znar_i, znar_r, znar_a, zfit_i, zfit_r, zfit_a, zbc, zlit, eq_self, List.getElem?_cons_zero, List.getElem?_cons_succ, List.set_cons_zero, List.set_cons_succ, List.take_succ_cons, List.take_zero, List.drop_succ_cons, List.drop_zero, List.reverse_cons, List.reverse_nil, List.nil_append, List.cons_append, List.append_nil, List.length_cons, List.length_nil, List.map_cons, List.map_nil, List.sum_cons, List.sum_nil, Option.toList_some, Option.toList_none, Nat.zero_add, Nat.add_zero, Bool.or_false, Bool.false_or, Bool.or_true, Bool.true_or, Bool.not_true, Bool.not_false, ge_iff_le, Fin.isValue, Fin.val_zero, Fin.val_one, Fin.val_two, true_and, and_true, true_implies, false_implies, forall_const, if_true, if_false, ite_true, ite_false, reduceIte, reduceCtorEq, true_or, or_true, and_self, implies_true, not_false_eq_true, not_true_eq_false, Nat.le_refl, Nat.zero_le, and_false, false_and, Nat.reduceAdd, Nat.reduceSub, Nat.reduceLT, Nat.reduceLeDiff, Nat.reduceMul, Nat.reduceEqDiff, Int.reduceAdd, Int.reduceNeg, Int.reduceToNat, Int.reduceLE, Int.reduceNatCast, Int.reduceSub, Int.reduceLT, Int.reduceEq, List.replicate_zero, List.replicate_succ, Int.reduceNatCast', Int32.reduceOfInt, Int32.reduceLT, Int32.reduceLE, Int32.reduceAdd, Int32.reduceSub, Int32.reduceMul, Int32.reduceToInt, Int32.reduceToNatClampNeg]
  exact hT
def T_PT_isDeed : ClassId → ClassId → zT := fun _ _ as h K => match as with
  | [.int n] => K (.inl (some (.int (f_wi n 0 7)))) h
  | _ => False
def E_PT_isDeed : ClassId → ClassId → Nat → Nat → Option zEn := fun cI cL kd i => match kd, i with
  | 0, 60 => some (3, none, true, true, 0, 0, T_PT_isWithin cI cL)
  | _, _ => none
theorem E_PT_isDeed_k : (∀ cI cL, E_PT_isDeed cI cL 0 60 = some (3, none, true, true, 0, 0, T_PT_isWithin cI cL)) := fun _ _ => rfl
set_option maxHeartbeats 4000000 in
set_option maxRecDepth 100000 in
theorem C_PT_isDeed {l : Launch} (hl : l.stackTraces = false) : zC l y_PT_isDeed (Cond.code y_PT_isDeed prog_1_method_23_code 1 (some .boolean) :: wsG) (rmL 2 0 0) zcl true 0 0 T_PT_isDeed := by
  refine zC_of (G := zGn) (E := E_PT_isDeed) (X := zXn) (SL := zSn) (NW := zNn) (CS := zCn) (ctor := false) hl (by decide) rfl rfl rfl (fun _ _ _ _ _ z => by cases z) (fun z => by cases z) (fun _ _ z => by cases z) (fun _ _ _ _ z => by cases z) (List.mem_cons_of_mem _ ka_i) (fun _ _ _ z => by cases z) (fun _ z => by cases z) (by
    intro p e s m args below meth c D A cI cL hx hb hml hown hts hK hA hEX kd idx en hE
    unfold E_PT_isDeed at hE
    split at hE
    · cases hE; exact zRow_S (C_PT_isWithin hl) rfl (Or.inl ⟨_, _, rfl⟩) hx hb hml hown hts hK hA hEX (hin_c kb_PT_isWithin) (List.mem_cons_of_mem _ kn_PT) (List.mem_cons_of_mem _ ks_PT_isWithin) (Or.inl (List.mem_cons_of_mem _ km_PT_60)) (by decide) (by decide) (by decide) rfl rfl
    · cases hE) ?_
  intro cI cL as h K hT
  match as, hT with
  | [.int n], hT =>
  have hT : K (.inl (some (.int (f_wi n 0 7)))) h := hT
  refine ⟨by simp [Value.category], by simp, fun Jd hc => zw_sound (J := fun _ => none) hc (fun _ _ z => by cases z) 10 0 _ _ _ _ _ _ ?_⟩
  simp (maxSteps := 4000000) only [zlc, zif0, zf3, D_PT_isDeed, E_PT_isDeed_k, T_PT_isWithin, f_wi_0, znr_wi, Classical.not_not, zw_S, zk_iconst, zk_bipush, zk_sipush, zk_ldc, zk_ldc_w, zk_aconst_null, zk_iload_n, zk_iload, zk_aload_n, zk_aload, zk_istore_n, zk_istore, zk_astore_n, zk_astore, zk_iinc, zk_iadd, zk_isub, zk_imul, zk_idiv, zk_iand, zk_ior, zk_ixor, zk_ishl, zk_ishr, zk_iushr, zk_i2l, zk_lcmp, zk_dup, zk_pop, zk_dup_x1, zk_dup2, zk_dup_x2, zk_goto, zk_ifCond, zk_if_icmp, zk_tableswitch, zk_getfield, zk_putfield, zk_iaload, zk_iastore, zk_laload, zk_lastore, zk_arraylength, zk_invokestatic, zk_invokevirtual, zk_invokespecial, zk_new, zk_newarray, zk_ireturn, zk_areturn, zk_return_, zi1_k, zi2_k, zr1_k, zri_k, zrii_k, zril_k, zvr_k, zl2_k, zv1_k, zv2_k, zv3_k, zli_k, zlr_k, zob_k, zai_k, zal_k, zfv_k, zlim_k, zlrm_k, zobm_k, zaim_k, zalm_k, zfvm_k, zgetf_k, zput_k, zcal_k, zrv_n, zrv_s, zswT_n, zswT_c, zgo_k, zcc_eq, zcc_ne, zcc_lt, zcc_ge, zcc_gt, zcc_le, zldj_k, zexc_k, znew_k, zial_k, zct_i, zct_l, zct_r, zct_n, zKK_r, zKK_x, znr_i, znr_0, znr_1, znr_v, znr_a, znr_o, znar_i, znar_r, znar_a, zfit_i, zfit_r, zfit_a, zbc, zlit, eq_self, List.getElem?_cons_zero, List.getElem?_cons_succ, List.set_cons_zero, List.set_cons_succ, List.take_succ_cons, List.take_zero, List.drop_succ_cons, List.drop_zero, List.reverse_cons, List.reverse_nil, List.nil_append, List.cons_append, List.append_nil, List.length_cons, List.length_nil, List.map_cons, List.map_nil, List.sum_cons, List.sum_nil, Option.toList_some, Option.toList_none, Nat.zero_add, Nat.add_zero, Bool.or_false, Bool.false_or, Bool.or_true, Bool.true_or, Bool.not_true, Bool.not_false, ge_iff_le, Fin.isValue, Fin.val_zero, Fin.val_one, Fin.val_two, true_and, and_true, true_implies, false_implies, forall_const, if_true, if_false, ite_true, ite_false, reduceIte, reduceCtorEq, true_or, or_true, and_self, implies_true, not_false_eq_true, not_true_eq_false, Nat.le_refl, Nat.zero_le, and_false, false_and, Nat.reduceAdd, Nat.reduceSub, Nat.reduceLT, Nat.reduceLeDiff, Nat.reduceMul, Nat.reduceEqDiff, Int.reduceAdd, Int.reduceNeg, Int.reduceToNat, Int.reduceLE, Int.reduceNatCast, Int.reduceSub, Int.reduceLT, Int.reduceEq, List.replicate_zero, List.replicate_succ, Int.reduceNatCast', Int32.reduceOfInt, Int32.reduceLT, Int32.reduceLE, Int32.reduceAdd, Int32.reduceSub, Int32.reduceMul, Int32.reduceToInt, Int32.reduceToNatClampNeg]
  exact hT
def T_PT_isFactor : ClassId → ClassId → zT := fun _ _ as h K => match as with
  | [.int n] => K (.inl (some (.int (f_wi n 0 14)))) h
  | _ => False
def E_PT_isFactor : ClassId → ClassId → Nat → Nat → Option zEn := fun cI cL kd i => match kd, i with
  | 0, 60 => some (3, none, true, true, 0, 0, T_PT_isWithin cI cL)
  | _, _ => none
theorem E_PT_isFactor_k : (∀ cI cL, E_PT_isFactor cI cL 0 60 = some (3, none, true, true, 0, 0, T_PT_isWithin cI cL)) := fun _ _ => rfl
set_option maxHeartbeats 4000000 in
set_option maxRecDepth 100000 in
theorem C_PT_isFactor {l : Launch} (hl : l.stackTraces = false) : zC l y_PT_isFactor (Cond.code y_PT_isFactor prog_1_method_24_code 1 (some .boolean) :: wsG) (rmL 2 0 0) zcl true 0 0 T_PT_isFactor := by
  refine zC_of (G := zGn) (E := E_PT_isFactor) (X := zXn) (SL := zSn) (NW := zNn) (CS := zCn) (ctor := false) hl (by decide) rfl rfl rfl (fun _ _ _ _ _ z => by cases z) (fun z => by cases z) (fun _ _ z => by cases z) (fun _ _ _ _ z => by cases z) (List.mem_cons_of_mem _ ka_i) (fun _ _ _ z => by cases z) (fun _ z => by cases z) (by
    intro p e s m args below meth c D A cI cL hx hb hml hown hts hK hA hEX kd idx en hE
    unfold E_PT_isFactor at hE
    split at hE
    · cases hE; exact zRow_S (C_PT_isWithin hl) rfl (Or.inl ⟨_, _, rfl⟩) hx hb hml hown hts hK hA hEX (hin_c kb_PT_isWithin) (List.mem_cons_of_mem _ kn_PT) (List.mem_cons_of_mem _ ks_PT_isWithin) (Or.inl (List.mem_cons_of_mem _ km_PT_60)) (by decide) (by decide) (by decide) rfl rfl
    · cases hE) ?_
  intro cI cL as h K hT
  match as, hT with
  | [.int n], hT =>
  have hT : K (.inl (some (.int (f_wi n 0 14)))) h := hT
  refine ⟨by simp [Value.category], by simp, fun Jd hc => zw_sound (J := fun _ => none) hc (fun _ _ z => by cases z) 10 0 _ _ _ _ _ _ ?_⟩
  simp (maxSteps := 4000000) only [zlc, zif0, zf3, D_PT_isFactor, E_PT_isFactor_k, T_PT_isWithin, f_wi_0, znr_wi, Classical.not_not, zw_S, zk_iconst, zk_bipush, zk_sipush, zk_ldc, zk_ldc_w, zk_aconst_null, zk_iload_n, zk_iload, zk_aload_n, zk_aload, zk_istore_n, zk_istore, zk_astore_n, zk_astore, zk_iinc, zk_iadd, zk_isub, zk_imul, zk_idiv, zk_iand, zk_ior, zk_ixor, zk_ishl, zk_ishr, zk_iushr, zk_i2l, zk_lcmp, zk_dup, zk_pop, zk_dup_x1, zk_dup2, zk_dup_x2, zk_goto, zk_ifCond, zk_if_icmp, zk_tableswitch, zk_getfield, zk_putfield, zk_iaload, zk_iastore, zk_laload, zk_lastore, zk_arraylength, zk_invokestatic, zk_invokevirtual, zk_invokespecial, zk_new, zk_newarray, zk_ireturn, zk_areturn, zk_return_, zi1_k, zi2_k, zr1_k, zri_k, zrii_k, zril_k, zvr_k, zl2_k, zv1_k, zv2_k, zv3_k, zli_k, zlr_k, zob_k, zai_k, zal_k, zfv_k, zlim_k, zlrm_k, zobm_k, zaim_k, zalm_k, zfvm_k, zgetf_k, zput_k, zcal_k, zrv_n, zrv_s, zswT_n, zswT_c, zgo_k, zcc_eq, zcc_ne, zcc_lt, zcc_ge, zcc_gt, zcc_le, zldj_k, zexc_k, znew_k, zial_k, zct_i, zct_l, zct_r, zct_n, zKK_r, zKK_x, znr_i, znr_0, znr_1, znr_v, znr_a, znr_o, znar_i, znar_r, znar_a, zfit_i, zfit_r, zfit_a, zbc, zlit, eq_self, List.getElem?_cons_zero, List.getElem?_cons_succ, List.set_cons_zero, List.set_cons_succ, List.take_succ_cons, List.take_zero, List.drop_succ_cons, List.drop_zero, List.reverse_cons, List.reverse_nil, List.nil_append, List.cons_append, List.append_nil, List.length_cons, List.length_nil, List.map_cons, List.map_nil, List.sum_cons, List.sum_nil, Option.toList_some, Option.toList_none, Nat.zero_add, Nat.add_zero, Bool.or_false, Bool.false_or, Bool.or_true, Bool.true_or, Bool.not_true, Bool.not_false, ge_iff_le, Fin.isValue, Fin.val_zero, Fin.val_one, Fin.val_two, true_and, and_true, true_implies, false_implies, forall_const, if_true, if_false, ite_true, ite_false, reduceIte, reduceCtorEq, true_or, or_true, and_self, implies_true, not_false_eq_true, not_true_eq_false, Nat.le_refl, Nat.zero_le, and_false, false_and, Nat.reduceAdd, Nat.reduceSub, Nat.reduceLT, Nat.reduceLeDiff, Nat.reduceMul, Nat.reduceEqDiff, Int.reduceAdd, Int.reduceNeg, Int.reduceToNat, Int.reduceLE, Int.reduceNatCast, Int.reduceSub, Int.reduceLT, Int.reduceEq, List.replicate_zero, List.replicate_succ, Int.reduceNatCast', Int32.reduceOfInt, Int32.reduceLT, Int32.reduceLE, Int32.reduceAdd, Int32.reduceSub, Int32.reduceMul, Int32.reduceToInt, Int32.reduceToNatClampNeg]
  exact hT
def f_cmp (t a b : Int32) : Int32 := if t = 0 then 0 else if t = 1 then (if b ≤ a then 0 else 1) else if t = 2 then (if a = b then 1 else 0) else if t = 3 then (if b < a then 0 else 1) else if t = 4 then (if a ≤ b then 0 else 1) else if t = 5 then (if a = b then 0 else 1) else if t = 6 then (if a < b then 0 else 1) else 1
def T_PT_compares : ClassId → ClassId → zT := fun _ _ as h K => match as with
  | [.int t, .int a, .int b] => K (.inl (some (.int (f_cmp t a b)))) h
  | _ => False
set_option maxHeartbeats 4000000 in
set_option maxRecDepth 100000 in
theorem C_PT_compares {l : Launch} (hl : l.stackTraces = false) : zC l y_PT_compares (Cond.code y_PT_compares prog_1_method_25_code 3 (some .boolean) :: wsG) (rmL 1 0 0) zcl true 0 0 T_PT_compares := by
  refine zC_of (G := zGn) (E := zEn0) (X := zXn) (SL := zSn) (NW := zNn) (CS := zCn) (ctor := false) hl (by decide) rfl rfl rfl (fun _ _ _ _ _ z => by cases z) (fun z => by cases z) (fun _ _ z => by cases z) (fun _ _ _ _ z => by cases z) (List.mem_cons_of_mem _ ka_i) (fun _ _ _ z => by cases z) (fun _ z => by cases z) (fun _ _ _ _ _ _ _ _ _ _ _ _ _ _ _ _ _ _ _ _ _ _ _ z => by cases z) ?_
  intro cI cL as h K hT
  match as, hT with
  | [.int t, .int a, .int b], hT =>
  have hT : K (.inl (some (.int (f_cmp t a b)))) h := hT
  refine ⟨by simp [Value.category], by simp, fun Jd hc => zw_sound (J := fun _ => none) hc (fun _ _ z => by cases z) 53 0 _ _ _ _ _ _ ?_⟩
  simp (maxSteps := 4000000) only [zlc, zif0, zf3, D_PT_compares, zti, Classical.not_not, zw_S, zk_iconst, zk_bipush, zk_sipush, zk_ldc, zk_ldc_w, zk_aconst_null, zk_iload_n, zk_iload, zk_aload_n, zk_aload, zk_istore_n, zk_istore, zk_astore_n, zk_astore, zk_iinc, zk_iadd, zk_isub, zk_imul, zk_idiv, zk_iand, zk_ior, zk_ixor, zk_ishl, zk_ishr, zk_iushr, zk_i2l, zk_lcmp, zk_dup, zk_pop, zk_dup_x1, zk_dup2, zk_dup_x2, zk_goto, zk_ifCond, zk_if_icmp, zk_tableswitch, zk_getfield, zk_putfield, zk_iaload, zk_iastore, zk_laload, zk_lastore, zk_arraylength, zk_invokestatic, zk_invokevirtual, zk_invokespecial, zk_new, zk_newarray, zk_ireturn, zk_areturn, zk_return_, zi1_k, zi2_k, zr1_k, zri_k, zrii_k, zril_k, zvr_k, zl2_k, zv1_k, zv2_k, zv3_k, zli_k, zlr_k, zob_k, zai_k, zal_k, zfv_k, zlim_k, zlrm_k, zobm_k, zaim_k, zalm_k, zfvm_k, zgetf_k, zput_k, zcal_k, zrv_n, zrv_s, zswT_n, zswT_c, zgo_k, zcc_eq, zcc_ne, zcc_lt, zcc_ge, zcc_gt, zcc_le, zldj_k, zexc_k, znew_k, zial_k, zct_i, zct_l, zct_r, zct_n, zKK_r, zKK_x, znr_i, znr_0, znr_1, znr_v, znr_a, znr_o, znar_i, znar_r, znar_a, zfit_i, zfit_r, zfit_a, zbc, zlit, eq_self, List.getElem?_cons_zero, List.getElem?_cons_succ, List.set_cons_zero, List.set_cons_succ, List.take_succ_cons, List.take_zero, List.drop_succ_cons, List.drop_zero, List.reverse_cons, List.reverse_nil, List.nil_append, List.cons_append, List.append_nil, List.length_cons, List.length_nil, List.map_cons, List.map_nil, List.sum_cons, List.sum_nil, Option.toList_some, Option.toList_none, Nat.zero_add, Nat.add_zero, Bool.or_false, Bool.false_or, Bool.or_true, Bool.true_or, Bool.not_true, Bool.not_false, ge_iff_le, Fin.isValue, Fin.val_zero, Fin.val_one, Fin.val_two, true_and, and_true, true_implies, false_implies, forall_const, if_true, if_false, ite_true, ite_false, reduceIte, reduceCtorEq, true_or, or_true, and_self, implies_true, not_false_eq_true, not_true_eq_false, Nat.le_refl, Nat.zero_le, and_false, false_and, Nat.reduceAdd, Nat.reduceSub, Nat.reduceLT, Nat.reduceLeDiff, Nat.reduceMul, Nat.reduceEqDiff, Int.reduceAdd, Int.reduceNeg, Int.reduceToNat, Int.reduceLE, Int.reduceNatCast, Int.reduceSub, Int.reduceLT, Int.reduceEq, List.replicate_zero, List.replicate_succ, Int.reduceNatCast', Int32.reduceOfInt, Int32.reduceLT, Int32.reduceLE, Int32.reduceAdd, Int32.reduceSub, Int32.reduceMul, Int32.reduceToInt, Int32.reduceToNatClampNeg]
  repeat' (first | (intro _) | (apply And.intro))
  all_goals (first | exact hT | (simp only [f_cmp, *, if_true, if_false, reduceIte, not_true_eq_false, not_false_eq_true] at hT; exact hT) | (simp [f_cmp, *] at hT; exact hT) | (simp [f_cmp, *] at hT ⊢; exact hT) | (simp_all [f_cmp]; done))
def f_mrg (a b c : Int32) : Int32 := (a &&& (c ^^^ (-1))) ||| (b &&& c)
def T_PT_merged : ClassId → ClassId → zT := fun _ _ as h K => match as with
  | [.int a, .int b, .int c] => K (.inl (some (.int (f_mrg a b c)))) h
  | _ => False
set_option maxHeartbeats 4000000 in
set_option maxRecDepth 100000 in
theorem C_PT_merged {l : Launch} (hl : l.stackTraces = false) : zC l y_PT_merged (Cond.code y_PT_merged prog_1_method_26_code 3 (some .int) :: wsG) (rmL 1 0 0) zcl true 0 0 T_PT_merged := by
  refine zC_of (G := zGn) (E := zEn0) (X := zXn) (SL := zSn) (NW := zNn) (CS := zCn) (ctor := false) hl (by decide) rfl rfl rfl (fun _ _ _ _ _ z => by cases z) (fun z => by cases z) (fun _ _ z => by cases z) (fun _ _ _ _ z => by cases z) (List.mem_cons_of_mem _ ka_i) (fun _ _ _ z => by cases z) (fun _ z => by cases z) (fun _ _ _ _ _ _ _ _ _ _ _ _ _ _ _ _ _ _ _ _ _ _ _ z => by cases z) ?_
  intro cI cL as h K hT
  match as, hT with
  | [.int a, .int b, .int c], hT =>
  have hT : K (.inl (some (.int (f_mrg a b c)))) h := hT
  refine ⟨by simp [Value.category], by simp, fun Jd hc => zw_sound (J := fun _ => none) hc (fun _ _ z => by cases z) 15 0 _ _ _ _ _ _ ?_⟩
  simp (maxSteps := 4000000) only [zlc, zif0, zf3, D_PT_merged, Classical.not_not, zw_S, zk_iconst, zk_bipush, zk_sipush, zk_ldc, zk_ldc_w, zk_aconst_null, zk_iload_n, zk_iload, zk_aload_n, zk_aload, zk_istore_n, zk_istore, zk_astore_n, zk_astore, zk_iinc, zk_iadd, zk_isub, zk_imul, zk_idiv, zk_iand, zk_ior, zk_ixor, zk_ishl, zk_ishr, zk_iushr, zk_i2l, zk_lcmp, zk_dup, zk_pop, zk_dup_x1, zk_dup2, zk_dup_x2, zk_goto, zk_ifCond, zk_if_icmp, zk_tableswitch, zk_getfield, zk_putfield, zk_iaload, zk_iastore, zk_laload, zk_lastore, zk_arraylength, zk_invokestatic, zk_invokevirtual, zk_invokespecial, zk_new, zk_newarray, zk_ireturn, zk_areturn, zk_return_, zi1_k, zi2_k, zr1_k, zri_k, zrii_k, zril_k, zvr_k, zl2_k, zv1_k, zv2_k, zv3_k, zli_k, zlr_k, zob_k, zai_k, zal_k, zfv_k, zlim_k, zlrm_k, zobm_k, zaim_k, zalm_k, zfvm_k, zgetf_k, zput_k, zcal_k, zrv_n, zrv_s, zswT_n, zswT_c, zgo_k, zcc_eq, zcc_ne, zcc_lt, zcc_ge, zcc_gt, zcc_le, zldj_k, zexc_k, znew_k, zial_k, zct_i, zct_l, zct_r, zct_n, zKK_r, zKK_x, znr_i, znr_0, znr_1, znr_v, znr_a, znr_o, znar_i, znar_r, znar_a, zfit_i, zfit_r, zfit_a, zbc, zlit, eq_self, List.getElem?_cons_zero, List.getElem?_cons_succ, List.set_cons_zero, List.set_cons_succ, List.take_succ_cons, List.take_zero, List.drop_succ_cons, List.drop_zero, List.reverse_cons, List.reverse_nil, List.nil_append, List.cons_append, List.append_nil, List.length_cons, List.length_nil, List.map_cons, List.map_nil, List.sum_cons, List.sum_nil, Option.toList_some, Option.toList_none, Nat.zero_add, Nat.add_zero, Bool.or_false, Bool.false_or, Bool.or_true, Bool.true_or, Bool.not_true, Bool.not_false, ge_iff_le, Fin.isValue, Fin.val_zero, Fin.val_one, Fin.val_two, true_and, and_true, true_implies, false_implies, forall_const, if_true, if_false, ite_true, ite_false, reduceIte, reduceCtorEq, true_or, or_true, and_self, implies_true, not_false_eq_true, not_true_eq_false, Nat.le_refl, Nat.zero_le, and_false, false_and, Nat.reduceAdd, Nat.reduceSub, Nat.reduceLT, Nat.reduceLeDiff, Nat.reduceMul, Nat.reduceEqDiff, Int.reduceAdd, Int.reduceNeg, Int.reduceToNat, Int.reduceLE, Int.reduceNatCast, Int.reduceSub, Int.reduceLT, Int.reduceEq, List.replicate_zero, List.replicate_succ, Int.reduceNatCast', Int32.reduceOfInt, Int32.reduceLT, Int32.reduceLE, Int32.reduceAdd, Int32.reduceSub, Int32.reduceMul, Int32.reduceToInt, Int32.reduceToNatClampNeg]
  exact hT
def f_ch (a b : Int32) : Int32 := (a.toUInt32 >>> (b.toUInt32 &&& Int32.toUInt32 31)).toInt32 &&& 255
def T_CO_channel : ClassId → ClassId → zT := fun _ _ as h K => match as with
  | [.int a, .int b] => K (.inl (some (.int (f_ch a b)))) h
  | _ => False
set_option maxHeartbeats 4000000 in
set_option maxRecDepth 100000 in
theorem C_CO_channel {l : Launch} (hl : l.stackTraces = false) : zC l y_CO_channel (Cond.code y_CO_channel prog_3_method_4_code 2 (some .int) :: wsG) (rmL 1 0 0) zcl true 0 0 T_CO_channel := by
  refine zC_of (G := zGn) (E := zEn0) (X := zXn) (SL := zSn) (NW := zNn) (CS := zCn) (ctor := false) hl (by decide) rfl rfl rfl (fun _ _ _ _ _ z => by cases z) (fun z => by cases z) (fun _ _ z => by cases z) (fun _ _ _ _ z => by cases z) (List.mem_cons_of_mem _ ka_i) (fun _ _ _ z => by cases z) (fun _ z => by cases z) (fun _ _ _ _ _ _ _ _ _ _ _ _ _ _ _ _ _ _ _ _ _ _ _ z => by cases z) ?_
  intro cI cL as h K hT
  match as, hT with
  | [.int a, .int b], hT =>
  have hT : K (.inl (some (.int (f_ch a b)))) h := hT
  refine ⟨by simp [Value.category], by simp, fun Jd hc => zw_sound (J := fun _ => none) hc (fun _ _ z => by cases z) 11 0 _ _ _ _ _ _ ?_⟩
  simp (maxSteps := 4000000) only [zlc, zif0, zf3, D_CO_channel, Classical.not_not, zw_S, zk_iconst, zk_bipush, zk_sipush, zk_ldc, zk_ldc_w, zk_aconst_null, zk_iload_n, zk_iload, zk_aload_n, zk_aload, zk_istore_n, zk_istore, zk_astore_n, zk_astore, zk_iinc, zk_iadd, zk_isub, zk_imul, zk_idiv, zk_iand, zk_ior, zk_ixor, zk_ishl, zk_ishr, zk_iushr, zk_i2l, zk_lcmp, zk_dup, zk_pop, zk_dup_x1, zk_dup2, zk_dup_x2, zk_goto, zk_ifCond, zk_if_icmp, zk_tableswitch, zk_getfield, zk_putfield, zk_iaload, zk_iastore, zk_laload, zk_lastore, zk_arraylength, zk_invokestatic, zk_invokevirtual, zk_invokespecial, zk_new, zk_newarray, zk_ireturn, zk_areturn, zk_return_, zi1_k, zi2_k, zr1_k, zri_k, zrii_k, zril_k, zvr_k, zl2_k, zv1_k, zv2_k, zv3_k, zli_k, zlr_k, zob_k, zai_k, zal_k, zfv_k, zlim_k, zlrm_k, zobm_k, zaim_k, zalm_k, zfvm_k, zgetf_k, zput_k, zcal_k, zrv_n, zrv_s, zswT_n, zswT_c, zgo_k, zcc_eq, zcc_ne, zcc_lt, zcc_ge, zcc_gt, zcc_le, zldj_k, zexc_k, znew_k, zial_k, zct_i, zct_l, zct_r, zct_n, zKK_r, zKK_x, znr_i, znr_0, znr_1, znr_v, znr_a, znr_o, znar_i, znar_r, znar_a, zfit_i, zfit_r, zfit_a, zbc, zlit, eq_self, List.getElem?_cons_zero, List.getElem?_cons_succ, List.set_cons_zero, List.set_cons_succ, List.take_succ_cons, List.take_zero, List.drop_succ_cons, List.drop_zero, List.reverse_cons, List.reverse_nil, List.nil_append, List.cons_append, List.append_nil, List.length_cons, List.length_nil, List.map_cons, List.map_nil, List.sum_cons, List.sum_nil, Option.toList_some, Option.toList_none, Nat.zero_add, Nat.add_zero, Bool.or_false, Bool.false_or, Bool.or_true, Bool.true_or, Bool.not_true, Bool.not_false, ge_iff_le, Fin.isValue, Fin.val_zero, Fin.val_one, Fin.val_two, true_and, and_true, true_implies, false_implies, forall_const, if_true, if_false, ite_true, ite_false, reduceIte, reduceCtorEq, true_or, or_true, and_self, implies_true, not_false_eq_true, not_true_eq_false, Nat.le_refl, Nat.zero_le, and_false, false_and, Nat.reduceAdd, Nat.reduceSub, Nat.reduceLT, Nat.reduceLeDiff, Nat.reduceMul, Nat.reduceEqDiff, Int.reduceAdd, Int.reduceNeg, Int.reduceToNat, Int.reduceLE, Int.reduceNatCast, Int.reduceSub, Int.reduceLT, Int.reduceEq, List.replicate_zero, List.replicate_succ, Int.reduceNatCast', Int32.reduceOfInt, Int32.reduceLT, Int32.reduceLE, Int32.reduceAdd, Int32.reduceSub, Int32.reduceMul, Int32.reduceToInt, Int32.reduceToNatClampNeg]
  exact hT
def f_pk (r g b a : Int32) : Int32 := (((a <<< ((24 : Int32) &&& 31)) ||| (b <<< ((16 : Int32) &&& 31))) ||| (g <<< ((8 : Int32) &&& 31))) ||| r
def T_CO_packed : ClassId → ClassId → zT := fun _ _ as h K => match as with
  | [.int r, .int g, .int b, .int a] => K (.inl (some (.int (f_pk r g b a)))) h
  | _ => False
set_option maxHeartbeats 4000000 in
set_option maxRecDepth 100000 in
theorem C_CO_packed {l : Launch} (hl : l.stackTraces = false) : zC l y_CO_packed (Cond.code y_CO_packed prog_3_method_2_code 4 (some .int) :: wsG) (rmL 1 0 0) zcl true 0 0 T_CO_packed := by
  refine zC_of (G := zGn) (E := zEn0) (X := zXn) (SL := zSn) (NW := zNn) (CS := zCn) (ctor := false) hl (by decide) rfl rfl rfl (fun _ _ _ _ _ z => by cases z) (fun z => by cases z) (fun _ _ z => by cases z) (fun _ _ _ _ z => by cases z) (List.mem_cons_of_mem _ ka_i) (fun _ _ _ z => by cases z) (fun _ z => by cases z) (fun _ _ _ _ _ _ _ _ _ _ _ _ _ _ _ _ _ _ _ _ _ _ _ z => by cases z) ?_
  intro cI cL as h K hT
  match as, hT with
  | [.int r, .int g, .int b, .int a], hT =>
  have hT : K (.inl (some (.int (f_pk r g b a)))) h := hT
  refine ⟨by simp [Value.category], by simp, fun Jd hc => zw_sound (J := fun _ => none) hc (fun _ _ z => by cases z) 19 0 _ _ _ _ _ _ ?_⟩
  simp (maxSteps := 4000000) only [zlc, zif0, zf3, D_CO_packed, Classical.not_not, zw_S, zk_iconst, zk_bipush, zk_sipush, zk_ldc, zk_ldc_w, zk_aconst_null, zk_iload_n, zk_iload, zk_aload_n, zk_aload, zk_istore_n, zk_istore, zk_astore_n, zk_astore, zk_iinc, zk_iadd, zk_isub, zk_imul, zk_idiv, zk_iand, zk_ior, zk_ixor, zk_ishl, zk_ishr, zk_iushr, zk_i2l, zk_lcmp, zk_dup, zk_pop, zk_dup_x1, zk_dup2, zk_dup_x2, zk_goto, zk_ifCond, zk_if_icmp, zk_tableswitch, zk_getfield, zk_putfield, zk_iaload, zk_iastore, zk_laload, zk_lastore, zk_arraylength, zk_invokestatic, zk_invokevirtual, zk_invokespecial, zk_new, zk_newarray, zk_ireturn, zk_areturn, zk_return_, zi1_k, zi2_k, zr1_k, zri_k, zrii_k, zril_k, zvr_k, zl2_k, zv1_k, zv2_k, zv3_k, zli_k, zlr_k, zob_k, zai_k, zal_k, zfv_k, zlim_k, zlrm_k, zobm_k, zaim_k, zalm_k, zfvm_k, zgetf_k, zput_k, zcal_k, zrv_n, zrv_s, zswT_n, zswT_c, zgo_k, zcc_eq, zcc_ne, zcc_lt, zcc_ge, zcc_gt, zcc_le, zldj_k, zexc_k, znew_k, zial_k, zct_i, zct_l, zct_r, zct_n, zKK_r, zKK_x, znr_i, znr_0, znr_1, znr_v, znr_a, znr_o, znar_i, znar_r, znar_a, zfit_i, zfit_r, zfit_a, zbc, zlit, eq_self, List.getElem?_cons_zero, List.getElem?_cons_succ, List.set_cons_zero, List.set_cons_succ, List.take_succ_cons, List.take_zero, List.drop_succ_cons, List.drop_zero, List.reverse_cons, List.reverse_nil, List.nil_append, List.cons_append, List.append_nil, List.length_cons, List.length_nil, List.map_cons, List.map_nil, List.sum_cons, List.sum_nil, Option.toList_some, Option.toList_none, Nat.zero_add, Nat.add_zero, Bool.or_false, Bool.false_or, Bool.or_true, Bool.true_or, Bool.not_true, Bool.not_false, ge_iff_le, Fin.isValue, Fin.val_zero, Fin.val_one, Fin.val_two, true_and, and_true, true_implies, false_implies, forall_const, if_true, if_false, ite_true, ite_false, reduceIte, reduceCtorEq, true_or, or_true, and_self, implies_true, not_false_eq_true, not_true_eq_false, Nat.le_refl, Nat.zero_le, and_false, false_and, Nat.reduceAdd, Nat.reduceSub, Nat.reduceLT, Nat.reduceLeDiff, Nat.reduceMul, Nat.reduceEqDiff, Int.reduceAdd, Int.reduceNeg, Int.reduceToNat, Int.reduceLE, Int.reduceNatCast, Int.reduceSub, Int.reduceLT, Int.reduceEq, List.replicate_zero, List.replicate_succ, Int.reduceNatCast', Int32.reduceOfInt, Int32.reduceLT, Int32.reduceLE, Int32.reduceAdd, Int32.reduceSub, Int32.reduceMul, Int32.reduceToInt, Int32.reduceToNatClampNeg]
  exact hT
def f_by (x : Int32) : Int32 := (255 * (if 0 < (if (65536 : Int32) < x then 65536 else x) then (if (65536 : Int32) < x then 65536 else x) else 0) + 32768) / 65536
def T_CO_byteOf : ClassId → ClassId → zT := fun _ _ as h K => match as with
  | [.int x] => K (.inl (some (.int (f_by x)))) h
  | _ => False
def E_CO_byteOf : ClassId → ClassId → Nat → Nat → Option zEn := fun cI cL kd i => match kd, i with
  | 0, 20 => some (2, none, true, true, 0, 0, zT_min)
  | 0, 26 => some (2, none, true, true, 0, 0, zT_max)
  | _, _ => none
theorem E_CO_byteOf_k : (∀ cI cL, E_CO_byteOf cI cL 0 20 = some (2, none, true, true, 0, 0, zT_min)) ∧ (∀ cI cL, E_CO_byteOf cI cL 0 26 = some (2, none, true, true, 0, 0, zT_max)) := ⟨fun _ _ => rfl, fun _ _ => rfl⟩
set_option maxHeartbeats 4000000 in
set_option maxRecDepth 100000 in
theorem C_CO_byteOf {l : Launch} (hl : l.stackTraces = false) : zC l y_CO_byteOf (Cond.code y_CO_byteOf prog_3_method_6_code 2 (some .int) :: wsG) (rmL 1 0 0) zcl true 0 0 T_CO_byteOf := by
  refine zC_of (G := zGn) (E := E_CO_byteOf) (X := zXn) (SL := zSn) (NW := zNn) (CS := CS_CO) (ctor := false) hl (by decide) rfl rfl rfl (fun _ _ _ _ _ z => by cases z) (fun z => by cases z) CS_CO_ok (fun _ _ _ _ z => by cases z) (List.mem_cons_of_mem _ ka_i) (fun _ _ _ z => by cases z) (fun _ z => by cases z) (by
    intro p e s m args below meth c D A cI cL hx hb hml hown hts hK hA hEX kd idx en hE
    unfold E_CO_byteOf at hE
    split at hE
    · cases hE; exact zRow_min hx hb hml hown hts (List.mem_cons_of_mem _ km_CO_20) (List.mem_cons_of_mem _ kj_s_min) (List.mem_cons_of_mem _ kj_n) (List.mem_cons_of_mem _ kj_c_min) (by decide) (by decide)
    · cases hE; exact zRow_max hx hb hml hown hts (List.mem_cons_of_mem _ km_CO_26) (List.mem_cons_of_mem _ kj_s_max) (List.mem_cons_of_mem _ kj_n) (List.mem_cons_of_mem _ kj_c_max) (by decide) (by decide)
    · cases hE) ?_
  intro cI cL as h K hT
  match as, hT with
  | [.int x], hT =>
  have hT : K (.inl (some (.int (f_by x)))) h := hT
  refine ⟨by simp [Value.category], by simp, fun Jd hc => zw_sound (J := fun _ => none) hc (fun _ _ z => by cases z) 19 0 _ _ _ _ _ _ ?_⟩
  simp (maxSteps := 4000000) only [zlc, zif0, zf3, D_CO_byteOf, E_CO_byteOf_k, zT_min, zT_max, CS_CO_k, Classical.not_not, zw_S, zk_iconst, zk_bipush, zk_sipush, zk_ldc, zk_ldc_w, zk_aconst_null, zk_iload_n, zk_iload, zk_aload_n, zk_aload, zk_istore_n, zk_istore, zk_astore_n, zk_astore, zk_iinc, zk_iadd, zk_isub, zk_imul, zk_idiv, zk_iand, zk_ior, zk_ixor, zk_ishl, zk_ishr, zk_iushr, zk_i2l, zk_lcmp, zk_dup, zk_pop, zk_dup_x1, zk_dup2, zk_dup_x2, zk_goto, zk_ifCond, zk_if_icmp, zk_tableswitch, zk_getfield, zk_putfield, zk_iaload, zk_iastore, zk_laload, zk_lastore, zk_arraylength, zk_invokestatic, zk_invokevirtual, zk_invokespecial, zk_new, zk_newarray, zk_ireturn, zk_areturn, zk_return_, zi1_k, zi2_k, zr1_k, zri_k, zrii_k, zril_k, zvr_k, zl2_k, zv1_k, zv2_k, zv3_k, zli_k, zlr_k, zob_k, zai_k, zal_k, zfv_k, zlim_k, zlrm_k, zobm_k, zaim_k, zalm_k, zfvm_k, zgetf_k, zput_k, zcal_k, zrv_n, zrv_s, zswT_n, zswT_c, zgo_k, zcc_eq, zcc_ne, zcc_lt, zcc_ge, zcc_gt, zcc_le, zldj_k, zexc_k, znew_k, zial_k, zct_i, zct_l, zct_r, zct_n, zKK_r, zKK_x, znr_i, znr_0, znr_1, znr_v, znr_a, znr_o, znar_i, znar_r, znar_a, zfit_i, zfit_r, zfit_a, zbc, zlit, eq_self, List.getElem?_cons_zero, List.getElem?_cons_succ, List.set_cons_zero, List.set_cons_succ, List.take_succ_cons, List.take_zero, List.drop_succ_cons, List.drop_zero, List.reverse_cons, List.reverse_nil, List.nil_append, List.cons_append, List.append_nil, List.length_cons, List.length_nil, List.map_cons, List.map_nil, List.sum_cons, List.sum_nil, Option.toList_some, Option.toList_none, Nat.zero_add, Nat.add_zero, Bool.or_false, Bool.false_or, Bool.or_true, Bool.true_or, Bool.not_true, Bool.not_false, ge_iff_le, Fin.isValue, Fin.val_zero, Fin.val_one, Fin.val_two, true_and, and_true, true_implies, false_implies, forall_const, if_true, if_false, ite_true, ite_false, reduceIte, reduceCtorEq, true_or, or_true, and_self, implies_true, not_false_eq_true, not_true_eq_false, Nat.le_refl, Nat.zero_le, and_false, false_and, Nat.reduceAdd, Nat.reduceSub, Nat.reduceLT, Nat.reduceLeDiff, Nat.reduceMul, Nat.reduceEqDiff, Int.reduceAdd, Int.reduceNeg, Int.reduceToNat, Int.reduceLE, Int.reduceNatCast, Int.reduceSub, Int.reduceLT, Int.reduceEq, List.replicate_zero, List.replicate_succ, Int.reduceNatCast', Int32.reduceOfInt, Int32.reduceLT, Int32.reduceLE, Int32.reduceAdd, Int32.reduceSub, Int32.reduceMul, Int32.reduceToInt, Int32.reduceToNatClampNeg]
  exact ⟨by decide, hT⟩
def T_CO_ofFixed : ClassId → ClassId → zT := fun _ _ as h K => match as with
  | [.int r, .int g, .int b, .int a] => K (.inl (some (.int (f_pk (f_by r) (f_by g) (f_by b) (f_by a))))) h
  | _ => False
def E_CO_ofFixed : ClassId → ClassId → Nat → Nat → Option zEn := fun cI cL kd i => match kd, i with
  | 0, 11 => some (1, none, true, true, 0, 0, T_CO_byteOf cI cL)
  | 0, 15 => some (4, none, true, true, 0, 0, T_CO_packed cI cL)
  | _, _ => none
theorem E_CO_ofFixed_k : (∀ cI cL, E_CO_ofFixed cI cL 0 11 = some (1, none, true, true, 0, 0, T_CO_byteOf cI cL)) ∧ (∀ cI cL, E_CO_ofFixed cI cL 0 15 = some (4, none, true, true, 0, 0, T_CO_packed cI cL)) := ⟨fun _ _ => rfl, fun _ _ => rfl⟩
set_option maxHeartbeats 4000000 in
set_option maxRecDepth 100000 in
theorem C_CO_ofFixed {l : Launch} (hl : l.stackTraces = false) : zC l y_CO_ofFixed (Cond.code y_CO_ofFixed prog_3_method_5_code 4 (some .int) :: wsG) (rmL 2 0 0) zcl true 0 0 T_CO_ofFixed := by
  refine zC_of (G := zGn) (E := E_CO_ofFixed) (X := zXn) (SL := zSn) (NW := zNn) (CS := zCn) (ctor := false) hl (by decide) rfl rfl rfl (fun _ _ _ _ _ z => by cases z) (fun z => by cases z) (fun _ _ z => by cases z) (fun _ _ _ _ z => by cases z) (List.mem_cons_of_mem _ ka_i) (fun _ _ _ z => by cases z) (fun _ z => by cases z) (by
    intro p e s m args below meth c D A cI cL hx hb hml hown hts hK hA hEX kd idx en hE
    unfold E_CO_ofFixed at hE
    split at hE
    · cases hE; exact zRow_S (C_CO_byteOf hl) rfl (Or.inl ⟨_, _, rfl⟩) hx hb hml hown hts hK hA hEX (hin_c kb_CO_byteOf) (List.mem_cons_of_mem _ kn_CO) (List.mem_cons_of_mem _ ks_CO_byteOf) (Or.inl (List.mem_cons_of_mem _ km_CO_11)) (by decide) (by decide) (by decide) rfl rfl
    · cases hE; exact zRow_S (C_CO_packed hl) rfl (Or.inl ⟨_, _, rfl⟩) hx hb hml hown hts hK hA hEX (hin_c kb_CO_packed) (List.mem_cons_of_mem _ kn_CO) (List.mem_cons_of_mem _ ks_CO_packed) (Or.inl (List.mem_cons_of_mem _ km_CO_15)) (by decide) (by decide) (by decide) rfl rfl
    · cases hE) ?_
  intro cI cL as h K hT
  match as, hT with
  | [.int r, .int g, .int b, .int a], hT =>
  have hT : K (.inl (some (.int (f_pk (f_by r) (f_by g) (f_by b) (f_by a))))) h := hT
  refine ⟨by simp [Value.category], by simp, fun Jd hc => zw_sound (J := fun _ => none) hc (fun _ _ z => by cases z) 15 0 _ _ _ _ _ _ ?_⟩
  simp (maxSteps := 4000000) only [zlc, zif0, zf3, D_CO_ofFixed, E_CO_ofFixed_k, T_CO_byteOf, T_CO_packed, Classical.not_not, zw_S, zk_iconst, zk_bipush, zk_sipush, zk_ldc, zk_ldc_w, zk_aconst_null, zk_iload_n, zk_iload, zk_aload_n, zk_aload, zk_istore_n, zk_istore, zk_astore_n, zk_astore, zk_iinc, zk_iadd, zk_isub, zk_imul, zk_idiv, zk_iand, zk_ior, zk_ixor, zk_ishl, zk_ishr, zk_iushr, zk_i2l, zk_lcmp, zk_dup, zk_pop, zk_dup_x1, zk_dup2, zk_dup_x2, zk_goto, zk_ifCond, zk_if_icmp, zk_tableswitch, zk_getfield, zk_putfield, zk_iaload, zk_iastore, zk_laload, zk_lastore, zk_arraylength, zk_invokestatic, zk_invokevirtual, zk_invokespecial, zk_new, zk_newarray, zk_ireturn, zk_areturn, zk_return_, zi1_k, zi2_k, zr1_k, zri_k, zrii_k, zril_k, zvr_k, zl2_k, zv1_k, zv2_k, zv3_k, zli_k, zlr_k, zob_k, zai_k, zal_k, zfv_k, zlim_k, zlrm_k, zobm_k, zaim_k, zalm_k, zfvm_k, zgetf_k, zput_k, zcal_k, zrv_n, zrv_s, zswT_n, zswT_c, zgo_k, zcc_eq, zcc_ne, zcc_lt, zcc_ge, zcc_gt, zcc_le, zldj_k, zexc_k, znew_k, zial_k, zct_i, zct_l, zct_r, zct_n, zKK_r, zKK_x, znr_i, znr_0, znr_1, znr_v, znr_a, znr_o, znar_i, znar_r, znar_a, zfit_i, zfit_r, zfit_a, zbc, zlit, eq_self, List.getElem?_cons_zero, List.getElem?_cons_succ, List.set_cons_zero, List.set_cons_succ, List.take_succ_cons, List.take_zero, List.drop_succ_cons, List.drop_zero, List.reverse_cons, List.reverse_nil, List.nil_append, List.cons_append, List.append_nil, List.length_cons, List.length_nil, List.map_cons, List.map_nil, List.sum_cons, List.sum_nil, Option.toList_some, Option.toList_none, Nat.zero_add, Nat.add_zero, Bool.or_false, Bool.false_or, Bool.or_true, Bool.true_or, Bool.not_true, Bool.not_false, ge_iff_le, Fin.isValue, Fin.val_zero, Fin.val_one, Fin.val_two, true_and, and_true, true_implies, false_implies, forall_const, if_true, if_false, ite_true, ite_false, reduceIte, reduceCtorEq, true_or, or_true, and_self, implies_true, not_false_eq_true, not_true_eq_false, Nat.le_refl, Nat.zero_le, and_false, false_and, Nat.reduceAdd, Nat.reduceSub, Nat.reduceLT, Nat.reduceLeDiff, Nat.reduceMul, Nat.reduceEqDiff, Int.reduceAdd, Int.reduceNeg, Int.reduceToNat, Int.reduceLE, Int.reduceNatCast, Int.reduceSub, Int.reduceLT, Int.reduceEq, List.replicate_zero, List.replicate_succ, Int.reduceNatCast', Int32.reduceOfInt, Int32.reduceLT, Int32.reduceLE, Int32.reduceAdd, Int32.reduceSub, Int32.reduceMul, Int32.reduceToInt, Int32.reduceToNatClampNeg]
  exact hT
def f_lg (n s d : Int32) : Int32 := (if n &&& 8 = 0 then (if n &&& 4 = 0 then (if n &&& 2 = 0 then (if n &&& 1 = 0 then 0 else 0 ||| ((s ^^^ (-1)) &&& (d ^^^ (-1)))) else (if n &&& 1 = 0 then 0 else 0 ||| ((s ^^^ (-1)) &&& (d ^^^ (-1)))) ||| ((s ^^^ (-1)) &&& d)) else (if n &&& 2 = 0 then (if n &&& 1 = 0 then 0 else 0 ||| ((s ^^^ (-1)) &&& (d ^^^ (-1)))) else (if n &&& 1 = 0 then 0 else 0 ||| ((s ^^^ (-1)) &&& (d ^^^ (-1)))) ||| ((s ^^^ (-1)) &&& d)) ||| (s &&& (d ^^^ (-1)))) else (if n &&& 4 = 0 then (if n &&& 2 = 0 then (if n &&& 1 = 0 then 0 else 0 ||| ((s ^^^ (-1)) &&& (d ^^^ (-1)))) else (if n &&& 1 = 0 then 0 else 0 ||| ((s ^^^ (-1)) &&& (d ^^^ (-1)))) ||| ((s ^^^ (-1)) &&& d)) else (if n &&& 2 = 0 then (if n &&& 1 = 0 then 0 else 0 ||| ((s ^^^ (-1)) &&& (d ^^^ (-1)))) else (if n &&& 1 = 0 then 0 else 0 ||| ((s ^^^ (-1)) &&& (d ^^^ (-1)))) ||| ((s ^^^ (-1)) &&& d)) ||| (s &&& (d ^^^ (-1)))) ||| (s &&& d))
def T_CO_byLogic : ClassId → ClassId → zT := fun _ _ as h K => match as with
  | [.int n, .int s, .int d] => K (.inl (some (.int (f_lg n s d)))) h
  | _ => False
set_option maxHeartbeats 4000000 in
set_option maxRecDepth 100000 in
theorem C_CO_byLogic {l : Launch} (hl : l.stackTraces = false) : zC l y_CO_byLogic (Cond.code y_CO_byLogic prog_3_method_7_code 4 (some .int) :: wsG) (rmL 1 0 0) zcl true 0 0 T_CO_byLogic := by
  refine zC_of (G := zGn) (E := zEn0) (X := zXn) (SL := zSn) (NW := zNn) (CS := zCn) (ctor := false) hl (by decide) rfl rfl rfl (fun _ _ _ _ _ z => by cases z) (fun z => by cases z) (fun _ _ z => by cases z) (fun _ _ _ _ z => by cases z) (List.mem_cons_of_mem _ ka_i) (fun _ _ _ z => by cases z) (fun _ z => by cases z) (fun _ _ _ _ _ _ _ _ _ _ _ _ _ _ _ _ _ _ _ _ _ _ _ z => by cases z) ?_
  intro cI cL as h K hT
  match as, hT with
  | [.int n, .int s, .int d], hT =>
  have hT : K (.inl (some (.int (f_lg n s d)))) h := hT
  refine ⟨by simp [Value.category], by simp, fun Jd hc => zw_sound (J := fun _ => none) hc (fun _ _ z => by cases z) 57 0 _ _ _ _ _ _ ?_⟩
  simp (maxSteps := 4000000) only [zlc, zif0, zf3, D_CO_byLogic, Classical.not_not, zw_S, zk_iconst, zk_bipush, zk_sipush, zk_ldc, zk_ldc_w, zk_aconst_null, zk_iload_n, zk_iload, zk_aload_n, zk_aload, zk_istore_n, zk_istore, zk_astore_n, zk_astore, zk_iinc, zk_iadd, zk_isub, zk_imul, zk_idiv, zk_iand, zk_ior, zk_ixor, zk_ishl, zk_ishr, zk_iushr, zk_i2l, zk_lcmp, zk_dup, zk_pop, zk_dup_x1, zk_dup2, zk_dup_x2, zk_goto, zk_ifCond, zk_if_icmp, zk_tableswitch, zk_getfield, zk_putfield, zk_iaload, zk_iastore, zk_laload, zk_lastore, zk_arraylength, zk_invokestatic, zk_invokevirtual, zk_invokespecial, zk_new, zk_newarray, zk_ireturn, zk_areturn, zk_return_, zi1_k, zi2_k, zr1_k, zri_k, zrii_k, zril_k, zvr_k, zl2_k, zv1_k, zv2_k, zv3_k, zli_k, zlr_k, zob_k, zai_k, zal_k, zfv_k, zlim_k, zlrm_k, zobm_k, zaim_k, zalm_k, zfvm_k, zgetf_k, zput_k, zcal_k, zrv_n, zrv_s, zswT_n, zswT_c, zgo_k, zcc_eq, zcc_ne, zcc_lt, zcc_ge, zcc_gt, zcc_le, zldj_k, zexc_k, znew_k, zial_k, zct_i, zct_l, zct_r, zct_n, zKK_r, zKK_x, znr_i, znr_0, znr_1, znr_v, znr_a, znr_o, znar_i, znar_r, znar_a, zfit_i, zfit_r, zfit_a, zbc, zlit, eq_self, List.getElem?_cons_zero, List.getElem?_cons_succ, List.set_cons_zero, List.set_cons_succ, List.take_succ_cons, List.take_zero, List.drop_succ_cons, List.drop_zero, List.reverse_cons, List.reverse_nil, List.nil_append, List.cons_append, List.append_nil, List.length_cons, List.length_nil, List.map_cons, List.map_nil, List.sum_cons, List.sum_nil, Option.toList_some, Option.toList_none, Nat.zero_add, Nat.add_zero, Bool.or_false, Bool.false_or, Bool.or_true, Bool.true_or, Bool.not_true, Bool.not_false, ge_iff_le, Fin.isValue, Fin.val_zero, Fin.val_one, Fin.val_two, true_and, and_true, true_implies, false_implies, forall_const, if_true, if_false, ite_true, ite_false, reduceIte, reduceCtorEq, true_or, or_true, and_self, implies_true, not_false_eq_true, not_true_eq_false, Nat.le_refl, Nat.zero_le, and_false, false_and, Nat.reduceAdd, Nat.reduceSub, Nat.reduceLT, Nat.reduceLeDiff, Nat.reduceMul, Nat.reduceEqDiff, Int.reduceAdd, Int.reduceNeg, Int.reduceToNat, Int.reduceLE, Int.reduceNatCast, Int.reduceSub, Int.reduceLT, Int.reduceEq, List.replicate_zero, List.replicate_succ, Int.reduceNatCast', Int32.reduceOfInt, Int32.reduceLT, Int32.reduceLE, Int32.reduceAdd, Int32.reduceSub, Int32.reduceMul, Int32.reduceToInt, Int32.reduceToNatClampNeg]
  repeat' (first | (intro _) | (apply And.intro))
  all_goals (first | exact hT | (simp only [f_lg, *, if_true, if_false, reduceIte, not_true_eq_false, not_false_eq_true] at hT; exact hT) | (simp [f_lg, *] at hT; exact hT) | (simp [f_lg, *] at hT ⊢; exact hT) | (simp_all [f_lg]; done))
def f_bw (x : Int32) : Int32 := if (255 : Int32) < ((if x < 0 then 0 else x) + 127) / 255 then 255 else ((if x < 0 then 0 else x) + 127) / 255
def T_BL_byteOfWeighted : ClassId → ClassId → zT := fun _ _ as h K => match as with
  | [.int x] => K (.inl (some (.int (f_bw x)))) h
  | _ => False
def E_BL_byteOfWeighted : ClassId → ClassId → Nat → Nat → Option zEn := fun cI cL kd i => match kd, i with
  | 0, 53 => some (2, none, true, true, 0, 0, zT_max)
  | 0, 48 => some (2, none, true, true, 0, 0, zT_min)
  | _, _ => none
theorem E_BL_byteOfWeighted_k : (∀ cI cL, E_BL_byteOfWeighted cI cL 0 53 = some (2, none, true, true, 0, 0, zT_max)) ∧ (∀ cI cL, E_BL_byteOfWeighted cI cL 0 48 = some (2, none, true, true, 0, 0, zT_min)) := ⟨fun _ _ => rfl, fun _ _ => rfl⟩
set_option maxHeartbeats 4000000 in
set_option maxRecDepth 100000 in
theorem C_BL_byteOfWeighted {l : Launch} (hl : l.stackTraces = false) : zC l y_BL_byteOfWeighted (Cond.code y_BL_byteOfWeighted prog_2_method_5_code 2 (some .int) :: wsG) (rmL 1 0 0) zcl true 0 0 T_BL_byteOfWeighted := by
  refine zC_of (G := zGn) (E := E_BL_byteOfWeighted) (X := zXn) (SL := zSn) (NW := zNn) (CS := zCn) (ctor := false) hl (by decide) rfl rfl rfl (fun _ _ _ _ _ z => by cases z) (fun z => by cases z) (fun _ _ z => by cases z) (fun _ _ _ _ z => by cases z) (List.mem_cons_of_mem _ ka_i) (fun _ _ _ z => by cases z) (fun _ z => by cases z) (by
    intro p e s m args below meth c D A cI cL hx hb hml hown hts hK hA hEX kd idx en hE
    unfold E_BL_byteOfWeighted at hE
    split at hE
    · cases hE; exact zRow_max hx hb hml hown hts (List.mem_cons_of_mem _ km_BL_53) (List.mem_cons_of_mem _ kj_s_max) (List.mem_cons_of_mem _ kj_n) (List.mem_cons_of_mem _ kj_c_max) (by decide) (by decide)
    · cases hE; exact zRow_min hx hb hml hown hts (List.mem_cons_of_mem _ km_BL_48) (List.mem_cons_of_mem _ kj_s_min) (List.mem_cons_of_mem _ kj_n) (List.mem_cons_of_mem _ kj_c_min) (by decide) (by decide)
    · cases hE) ?_
  intro cI cL as h K hT
  match as, hT with
  | [.int x], hT =>
  have hT : K (.inl (some (.int (f_bw x)))) h := hT
  refine ⟨by simp [Value.category], by simp, fun Jd hc => zw_sound (J := fun _ => none) hc (fun _ _ z => by cases z) 17 0 _ _ _ _ _ _ ?_⟩
  simp (maxSteps := 4000000) only [zlc, zif0, zf3, D_BL_byteOfWeighted, E_BL_byteOfWeighted_k, zT_max, zT_min, Classical.not_not, zw_S, zk_iconst, zk_bipush, zk_sipush, zk_ldc, zk_ldc_w, zk_aconst_null, zk_iload_n, zk_iload, zk_aload_n, zk_aload, zk_istore_n, zk_istore, zk_astore_n, zk_astore, zk_iinc, zk_iadd, zk_isub, zk_imul, zk_idiv, zk_iand, zk_ior, zk_ixor, zk_ishl, zk_ishr, zk_iushr, zk_i2l, zk_lcmp, zk_dup, zk_pop, zk_dup_x1, zk_dup2, zk_dup_x2, zk_goto, zk_ifCond, zk_if_icmp, zk_tableswitch, zk_getfield, zk_putfield, zk_iaload, zk_iastore, zk_laload, zk_lastore, zk_arraylength, zk_invokestatic, zk_invokevirtual, zk_invokespecial, zk_new, zk_newarray, zk_ireturn, zk_areturn, zk_return_, zi1_k, zi2_k, zr1_k, zri_k, zrii_k, zril_k, zvr_k, zl2_k, zv1_k, zv2_k, zv3_k, zli_k, zlr_k, zob_k, zai_k, zal_k, zfv_k, zlim_k, zlrm_k, zobm_k, zaim_k, zalm_k, zfvm_k, zgetf_k, zput_k, zcal_k, zrv_n, zrv_s, zswT_n, zswT_c, zgo_k, zcc_eq, zcc_ne, zcc_lt, zcc_ge, zcc_gt, zcc_le, zldj_k, zexc_k, znew_k, zial_k, zct_i, zct_l, zct_r, zct_n, zKK_r, zKK_x, znr_i, znr_0, znr_1, znr_v, znr_a, znr_o, znar_i, znar_r, znar_a, zfit_i, zfit_r, zfit_a, zbc, zlit, eq_self, List.getElem?_cons_zero, List.getElem?_cons_succ, List.set_cons_zero, List.set_cons_succ, List.take_succ_cons, List.take_zero, List.drop_succ_cons, List.drop_zero, List.reverse_cons, List.reverse_nil, List.nil_append, List.cons_append, List.append_nil, List.length_cons, List.length_nil, List.map_cons, List.map_nil, List.sum_cons, List.sum_nil, Option.toList_some, Option.toList_none, Nat.zero_add, Nat.add_zero, Bool.or_false, Bool.false_or, Bool.or_true, Bool.true_or, Bool.not_true, Bool.not_false, ge_iff_le, Fin.isValue, Fin.val_zero, Fin.val_one, Fin.val_two, true_and, and_true, true_implies, false_implies, forall_const, if_true, if_false, ite_true, ite_false, reduceIte, reduceCtorEq, true_or, or_true, and_self, implies_true, not_false_eq_true, not_true_eq_false, Nat.le_refl, Nat.zero_le, and_false, false_and, Nat.reduceAdd, Nat.reduceSub, Nat.reduceLT, Nat.reduceLeDiff, Nat.reduceMul, Nat.reduceEqDiff, Int.reduceAdd, Int.reduceNeg, Int.reduceToNat, Int.reduceLE, Int.reduceNatCast, Int.reduceSub, Int.reduceLT, Int.reduceEq, List.replicate_zero, List.replicate_succ, Int.reduceNatCast', Int32.reduceOfInt, Int32.reduceLT, Int32.reduceLE, Int32.reduceAdd, Int32.reduceSub, Int32.reduceMul, Int32.reduceToInt, Int32.reduceToNatClampNeg]
  exact ⟨by decide, hT⟩
end
section
def f_has (x0 y0 wd hg x y : Int32) : Int32 := if x < x0 then 0 else if x0 + wd ≤ x then 0 else if y < y0 then 0 else if y0 + hg ≤ y then 0 else 1
def T_FR_has : ClassId → ClassId → zT := fun _ _ as h K => match as with
  | [.ref i, .int x, .int y] => zob h i 1 (fun fs => match fs with
    | [_, _, _, _, .int x0, .int y0, .int wd, .int hg, _] => K (.inl (some (.int (f_has x0 y0 wd hg x y)))) h
    | _ => False)
  | _ => False
set_option maxHeartbeats 4000000 in
set_option maxRecDepth 100000 in
theorem C_FR_has {l : Launch} (hl : l.stackTraces = false) : zC l y_FR_has (Cond.code y_FR_has prog_4_method_3_code 3 (some .boolean) :: wsG) (rmL 1 0 0) zcl true 0 0 T_FR_has := by
  refine zC_of (G := G_FR) (E := zEn0) (X := zXn) (SL := zSn) (NW := zNn) (CS := zCn) (ctor := false) hl (by decide) rfl rfl rfl G_FR_ok (fun z => by cases z) (fun _ _ z => by cases z) (fun _ _ _ _ z => by cases z) (List.mem_cons_of_mem _ ka_i) (fun _ _ _ z => by cases z) (fun _ z => by cases z) (fun _ _ _ _ _ _ _ _ _ _ _ _ _ _ _ _ _ _ _ _ _ _ _ z => by cases z) ?_
  intro cI cL as h K hT
  match as, hT with
  | [.ref i, .int x, .int y], hT =>
  obtain ⟨fs, hi, hT⟩ := zob_s hT
  match fs, hi, hT with
  | [u0, u1, u2, u3, .int x0, .int y0, .int wd, .int hg, u4], hi, hT =>
  have hT : K (.inl (some (.int (f_has x0 y0 wd hg x y)))) h := hT
  refine ⟨by simp [Value.category], by simp, fun Jd hc => zw_sound (J := fun _ => none) hc (fun _ _ z => by cases z) 31 0 _ _ _ _ _ _ ?_⟩
  simp (maxSteps := 4000000) only [zlc, zif0, zf3, D_FR_has, G_FR_k, Classical.not_not, hi, zw_S, zk_iconst, zk_bipush, zk_sipush, zk_ldc, zk_ldc_w, zk_aconst_null, zk_iload_n, zk_iload, zk_aload_n, zk_aload, zk_istore_n, zk_istore, zk_astore_n, zk_astore, zk_iinc, zk_iadd, zk_isub, zk_imul, zk_idiv, zk_iand, zk_ior, zk_ixor, zk_ishl, zk_ishr, zk_iushr, zk_i2l, zk_lcmp, zk_dup, zk_pop, zk_dup_x1, zk_dup2, zk_dup_x2, zk_goto, zk_ifCond, zk_if_icmp, zk_tableswitch, zk_getfield, zk_putfield, zk_iaload, zk_iastore, zk_laload, zk_lastore, zk_arraylength, zk_invokestatic, zk_invokevirtual, zk_invokespecial, zk_new, zk_newarray, zk_ireturn, zk_areturn, zk_return_, zi1_k, zi2_k, zr1_k, zri_k, zrii_k, zril_k, zvr_k, zl2_k, zv1_k, zv2_k, zv3_k, zli_k, zlr_k, zob_k, zai_k, zal_k, zfv_k, zlim_k, zlrm_k, zobm_k, zaim_k, zalm_k, zfvm_k, zgetf_k, zput_k, zcal_k, zrv_n, zrv_s, zswT_n, zswT_c, zgo_k, zcc_eq, zcc_ne, zcc_lt, zcc_ge, zcc_gt, zcc_le, zldj_k, zexc_k, znew_k, zial_k, zct_i, zct_l, zct_r, zct_n, zKK_r, zKK_x, znr_i, znr_0, znr_1, znr_v, znr_a, znr_o, znar_i, znar_r, znar_a, zfit_i, zfit_r, zfit_a, zbc, zlit, eq_self, List.getElem?_cons_zero, List.getElem?_cons_succ, List.set_cons_zero, List.set_cons_succ, List.take_succ_cons, List.take_zero, List.drop_succ_cons, List.drop_zero, List.reverse_cons, List.reverse_nil, List.nil_append, List.cons_append, List.append_nil, List.length_cons, List.length_nil, List.map_cons, List.map_nil, List.sum_cons, List.sum_nil, Option.toList_some, Option.toList_none, Nat.zero_add, Nat.add_zero, Bool.or_false, Bool.false_or, Bool.or_true, Bool.true_or, Bool.not_true, Bool.not_false, ge_iff_le, Fin.isValue, Fin.val_zero, Fin.val_one, Fin.val_two, true_and, and_true, true_implies, false_implies, forall_const, if_true, if_false, ite_true, ite_false, reduceIte, reduceCtorEq, true_or, or_true, and_self, implies_true, not_false_eq_true, not_true_eq_false, Nat.le_refl, Nat.zero_le, and_false, false_and, Nat.reduceAdd, Nat.reduceSub, Nat.reduceLT, Nat.reduceLeDiff, Nat.reduceMul, Nat.reduceEqDiff, Int.reduceAdd, Int.reduceNeg, Int.reduceToNat, Int.reduceLE, Int.reduceNatCast, Int.reduceSub, Int.reduceLT, Int.reduceEq, List.replicate_zero, List.replicate_succ, Int.reduceNatCast', Int32.reduceOfInt, Int32.reduceLT, Int32.reduceLE, Int32.reduceAdd, Int32.reduceSub, Int32.reduceMul, Int32.reduceToInt, Int32.reduceToNatClampNeg]
  repeat' (first | (intro _) | (apply And.intro))
  all_goals (first | exact hT | (simp only [f_has, *, if_true, if_false, reduceIte, not_true_eq_false, not_false_eq_true] at hT; exact hT) | (simp [f_has, *] at hT; exact hT) | (simp [f_has, *] at hT ⊢; exact hT) | (simp_all [f_has]; done))
def f_idx (x0 y0 wd x y : Int32) : Int32 := (y - y0) * wd + (x - x0)
def T_FR_indexOf : ClassId → ClassId → zT := fun _ _ as h K => match as with
  | [.ref i, .int x, .int y] => zob h i 1 (fun fs => match fs with
    | [_, _, _, _, .int x0, .int y0, .int wd, .int hg, _] => K (.inl (some (.int (f_idx x0 y0 wd x y)))) h
    | _ => False)
  | _ => False
set_option maxHeartbeats 4000000 in
set_option maxRecDepth 100000 in
theorem C_FR_indexOf {l : Launch} (hl : l.stackTraces = false) : zC l y_FR_indexOf (Cond.code y_FR_indexOf prog_4_method_4_code 3 (some .int) :: wsG) (rmL 1 0 0) zcl true 0 0 T_FR_indexOf := by
  refine zC_of (G := G_FR) (E := zEn0) (X := zXn) (SL := zSn) (NW := zNn) (CS := zCn) (ctor := false) hl (by decide) rfl rfl rfl G_FR_ok (fun z => by cases z) (fun _ _ z => by cases z) (fun _ _ _ _ z => by cases z) (List.mem_cons_of_mem _ ka_i) (fun _ _ _ z => by cases z) (fun _ z => by cases z) (fun _ _ _ _ _ _ _ _ _ _ _ _ _ _ _ _ _ _ _ _ _ _ _ z => by cases z) ?_
  intro cI cL as h K hT
  match as, hT with
  | [.ref i, .int x, .int y], hT =>
  obtain ⟨fs, hi, hT⟩ := zob_s hT
  match fs, hi, hT with
  | [u0, u1, u2, u3, .int x0, .int y0, .int wd, .int hg, u4], hi, hT =>
  have hT : K (.inl (some (.int (f_idx x0 y0 wd x y)))) h := hT
  refine ⟨by simp [Value.category], by simp, fun Jd hc => zw_sound (J := fun _ => none) hc (fun _ _ z => by cases z) 18 0 _ _ _ _ _ _ ?_⟩
  simp (maxSteps := 4000000) only [zlc, zif0, zf3, D_FR_indexOf, G_FR_k, Classical.not_not, hi, zw_S, zk_iconst, zk_bipush, zk_sipush, zk_ldc, zk_ldc_w, zk_aconst_null, zk_iload_n, zk_iload, zk_aload_n, zk_aload, zk_istore_n, zk_istore, zk_astore_n, zk_astore, zk_iinc, zk_iadd, zk_isub, zk_imul, zk_idiv, zk_iand, zk_ior, zk_ixor, zk_ishl, zk_ishr, zk_iushr, zk_i2l, zk_lcmp, zk_dup, zk_pop, zk_dup_x1, zk_dup2, zk_dup_x2, zk_goto, zk_ifCond, zk_if_icmp, zk_tableswitch, zk_getfield, zk_putfield, zk_iaload, zk_iastore, zk_laload, zk_lastore, zk_arraylength, zk_invokestatic, zk_invokevirtual, zk_invokespecial, zk_new, zk_newarray, zk_ireturn, zk_areturn, zk_return_, zi1_k, zi2_k, zr1_k, zri_k, zrii_k, zril_k, zvr_k, zl2_k, zv1_k, zv2_k, zv3_k, zli_k, zlr_k, zob_k, zai_k, zal_k, zfv_k, zlim_k, zlrm_k, zobm_k, zaim_k, zalm_k, zfvm_k, zgetf_k, zput_k, zcal_k, zrv_n, zrv_s, zswT_n, zswT_c, zgo_k, zcc_eq, zcc_ne, zcc_lt, zcc_ge, zcc_gt, zcc_le, zldj_k, zexc_k, znew_k, zial_k, zct_i, zct_l, zct_r, zct_n, zKK_r, zKK_x, znr_i, znr_0, znr_1, znr_v, znr_a, znr_o, znar_i, znar_r, znar_a, zfit_i, zfit_r, zfit_a, zbc, zlit, eq_self, List.getElem?_cons_zero, List.getElem?_cons_succ, List.set_cons_zero, List.set_cons_succ, List.take_succ_cons, List.take_zero, List.drop_succ_cons, List.drop_zero, List.reverse_cons, List.reverse_nil, List.nil_append, List.cons_append, List.append_nil, List.length_cons, List.length_nil, List.map_cons, List.map_nil, List.sum_cons, List.sum_nil, Option.toList_some, Option.toList_none, Nat.zero_add, Nat.add_zero, Bool.or_false, Bool.false_or, Bool.or_true, Bool.true_or, Bool.not_true, Bool.not_false, ge_iff_le, Fin.isValue, Fin.val_zero, Fin.val_one, Fin.val_two, true_and, and_true, true_implies, false_implies, forall_const, if_true, if_false, ite_true, ite_false, reduceIte, reduceCtorEq, true_or, or_true, and_self, implies_true, not_false_eq_true, not_true_eq_false, Nat.le_refl, Nat.zero_le, and_false, false_and, Nat.reduceAdd, Nat.reduceSub, Nat.reduceLT, Nat.reduceLeDiff, Nat.reduceMul, Nat.reduceEqDiff, Int.reduceAdd, Int.reduceNeg, Int.reduceToNat, Int.reduceLE, Int.reduceNatCast, Int.reduceSub, Int.reduceLT, Int.reduceEq, List.replicate_zero, List.replicate_succ, Int.reduceNatCast', Int32.reduceOfInt, Int32.reduceLT, Int32.reduceLE, Int32.reduceAdd, Int32.reduceSub, Int32.reduceMul, Int32.reduceToInt, Int32.reduceToNatClampNeg]
  exact hT
def T_FR_rowsOf : ClassId → ClassId → zT := fun _ _ as h K => match as with
  | [.ref i, .int w] => zob h i 1 (fun fs => match fs with
    | [_, .ref c, .ref d, .ref e, _, _, _, _, _] => (w = 0 → K (.inl (some (.ref c))) h) ∧ (¬ w = 0 → (w = 1 → K (.inl (some (.ref d))) h) ∧ (¬ w = 1 → K (.inl (some (.ref e))) h))
    | _ => False)
  | _ => False
set_option maxHeartbeats 4000000 in
set_option maxRecDepth 100000 in
theorem C_FR_rowsOf {l : Launch} (hl : l.stackTraces = false) : zC l y_FR_rowsOf (Cond.code y_FR_rowsOf prog_4_method_5_code 2 (some (.array .int)) :: wsG) (rmL 1 0 0) zcl true 0 0 T_FR_rowsOf := by
  refine zC_of (G := G_FR) (E := zEn0) (X := zXn) (SL := zSn) (NW := zNn) (CS := zCn) (ctor := false) hl (by decide) rfl rfl rfl G_FR_ok (fun z => by cases z) (fun _ _ z => by cases z) (fun _ _ _ _ z => by cases z) (List.mem_cons_of_mem _ ka_i) (fun _ _ _ z => by cases z) (fun _ z => by cases z) (fun _ _ _ _ _ _ _ _ _ _ _ _ _ _ _ _ _ _ _ _ _ _ _ z => by cases z) ?_
  intro cI cL as h K hT
  match as, hT with
  | [.ref i, .int w], hT =>
  obtain ⟨fs, hi, hT⟩ := zob_s hT
  match fs, hi, hT with
  | [u0, .ref c, .ref d, .ref e, u1, u2, u3, u4, u5], hi, hT =>
  have hT : (w = 0 → K (.inl (some (.ref c))) h) ∧ (¬ w = 0 → (w = 1 → K (.inl (some (.ref d))) h) ∧ (¬ w = 1 → K (.inl (some (.ref e))) h)) := hT
  refine ⟨by simp [Value.category], by simp, fun Jd hc => zw_sound (J := fun _ => none) hc (fun _ _ z => by cases z) 19 0 _ _ _ _ _ _ ?_⟩
  simp (maxSteps := 4000000) only [zlc, zif0, zf3, D_FR_rowsOf, G_FR_k, Classical.not_not, hi, zw_S, zk_iconst, zk_bipush, zk_sipush, zk_ldc, zk_ldc_w, zk_aconst_null, zk_iload_n, zk_iload, zk_aload_n, zk_aload, zk_istore_n, zk_istore, zk_astore_n, zk_astore, zk_iinc, zk_iadd, zk_isub, zk_imul, zk_idiv, zk_iand, zk_ior, zk_ixor, zk_ishl, zk_ishr, zk_iushr, zk_i2l, zk_lcmp, zk_dup, zk_pop, zk_dup_x1, zk_dup2, zk_dup_x2, zk_goto, zk_ifCond, zk_if_icmp, zk_tableswitch, zk_getfield, zk_putfield, zk_iaload, zk_iastore, zk_laload, zk_lastore, zk_arraylength, zk_invokestatic, zk_invokevirtual, zk_invokespecial, zk_new, zk_newarray, zk_ireturn, zk_areturn, zk_return_, zi1_k, zi2_k, zr1_k, zri_k, zrii_k, zril_k, zvr_k, zl2_k, zv1_k, zv2_k, zv3_k, zli_k, zlr_k, zob_k, zai_k, zal_k, zfv_k, zlim_k, zlrm_k, zobm_k, zaim_k, zalm_k, zfvm_k, zgetf_k, zput_k, zcal_k, zrv_n, zrv_s, zswT_n, zswT_c, zgo_k, zcc_eq, zcc_ne, zcc_lt, zcc_ge, zcc_gt, zcc_le, zldj_k, zexc_k, znew_k, zial_k, zct_i, zct_l, zct_r, zct_n, zKK_r, zKK_x, znr_i, znr_0, znr_1, znr_v, znr_a, znr_o, znar_i, znar_r, znar_a, zfit_i, zfit_r, zfit_a, zbc, zlit, eq_self, List.getElem?_cons_zero, List.getElem?_cons_succ, List.set_cons_zero, List.set_cons_succ, List.take_succ_cons, List.take_zero, List.drop_succ_cons, List.drop_zero, List.reverse_cons, List.reverse_nil, List.nil_append, List.cons_append, List.append_nil, List.length_cons, List.length_nil, List.map_cons, List.map_nil, List.sum_cons, List.sum_nil, Option.toList_some, Option.toList_none, Nat.zero_add, Nat.add_zero, Bool.or_false, Bool.false_or, Bool.or_true, Bool.true_or, Bool.not_true, Bool.not_false, ge_iff_le, Fin.isValue, Fin.val_zero, Fin.val_one, Fin.val_two, true_and, and_true, true_implies, false_implies, forall_const, if_true, if_false, ite_true, ite_false, reduceIte, reduceCtorEq, true_or, or_true, and_self, implies_true, not_false_eq_true, not_true_eq_false, Nat.le_refl, Nat.zero_le, and_false, false_and, Nat.reduceAdd, Nat.reduceSub, Nat.reduceLT, Nat.reduceLeDiff, Nat.reduceMul, Nat.reduceEqDiff, Int.reduceAdd, Int.reduceNeg, Int.reduceToNat, Int.reduceLE, Int.reduceNatCast, Int.reduceSub, Int.reduceLT, Int.reduceEq, List.replicate_zero, List.replicate_succ, Int.reduceNatCast', Int32.reduceOfInt, Int32.reduceLT, Int32.reduceLE, Int32.reduceAdd, Int32.reduceSub, Int32.reduceMul, Int32.reduceToInt, Int32.reduceToNatClampNeg]
  exact ⟨fun z => ⟨(hT.2 z).2, (hT.2 z).1⟩, fun z => hT.1 z⟩
def f_hold (a b c d x y : Int32) : Int32 := if c < a then 1 else if x < a then 0 else if c ≤ x then 0 else if y < b then 0 else if d ≤ y then 0 else 1
def T_SC_hold : ClassId → ClassId → zT := fun _ _ as h K => match as with
  | [.ref i, .int x, .int y] => zob h i 2 (fun fs => match fs with
    | [.int a, .int b, .int c, .int d] => K (.inl (some (.int (f_hold a b c d x y)))) h
    | _ => False)
  | _ => False
set_option maxHeartbeats 4000000 in
set_option maxRecDepth 100000 in
theorem C_SC_hold {l : Launch} (hl : l.stackTraces = false) : zC l y_SC_hold (Cond.code y_SC_hold prog_5_method_2_code 3 (some .boolean) :: wsG) (rmL 1 0 0) zcl true 0 0 T_SC_hold := by
  refine zC_of (G := G_SC) (E := zEn0) (X := zXn) (SL := zSn) (NW := zNn) (CS := zCn) (ctor := false) hl (by decide) rfl rfl rfl G_SC_ok (fun z => by cases z) (fun _ _ z => by cases z) (fun _ _ _ _ z => by cases z) (List.mem_cons_of_mem _ ka_i) (fun _ _ _ z => by cases z) (fun _ z => by cases z) (fun _ _ _ _ _ _ _ _ _ _ _ _ _ _ _ _ _ _ _ _ _ _ _ z => by cases z) ?_
  intro cI cL as h K hT
  match as, hT with
  | [.ref i, .int x, .int y], hT =>
  obtain ⟨fs, hi, hT⟩ := zob_s hT
  match fs, hi, hT with
  | [.int a, .int b, .int c, .int d], hi, hT =>
  have hT : K (.inl (some (.int (f_hold a b c d x y)))) h := hT
  refine ⟨by simp [Value.category], by simp, fun Jd hc => zw_sound (J := fun _ => none) hc (fun _ _ z => by cases z) 30 0 _ _ _ _ _ _ ?_⟩
  simp (maxSteps := 4000000) only [zlc, zif0, zf3, D_SC_hold, G_SC_k, Classical.not_not, hi, zw_S, zk_iconst, zk_bipush, zk_sipush, zk_ldc, zk_ldc_w, zk_aconst_null, zk_iload_n, zk_iload, zk_aload_n, zk_aload, zk_istore_n, zk_istore, zk_astore_n, zk_astore, zk_iinc, zk_iadd, zk_isub, zk_imul, zk_idiv, zk_iand, zk_ior, zk_ixor, zk_ishl, zk_ishr, zk_iushr, zk_i2l, zk_lcmp, zk_dup, zk_pop, zk_dup_x1, zk_dup2, zk_dup_x2, zk_goto, zk_ifCond, zk_if_icmp, zk_tableswitch, zk_getfield, zk_putfield, zk_iaload, zk_iastore, zk_laload, zk_lastore, zk_arraylength, zk_invokestatic, zk_invokevirtual, zk_invokespecial, zk_new, zk_newarray, zk_ireturn, zk_areturn, zk_return_, zi1_k, zi2_k, zr1_k, zri_k, zrii_k, zril_k, zvr_k, zl2_k, zv1_k, zv2_k, zv3_k, zli_k, zlr_k, zob_k, zai_k, zal_k, zfv_k, zlim_k, zlrm_k, zobm_k, zaim_k, zalm_k, zfvm_k, zgetf_k, zput_k, zcal_k, zrv_n, zrv_s, zswT_n, zswT_c, zgo_k, zcc_eq, zcc_ne, zcc_lt, zcc_ge, zcc_gt, zcc_le, zldj_k, zexc_k, znew_k, zial_k, zct_i, zct_l, zct_r, zct_n, zKK_r, zKK_x, znr_i, znr_0, znr_1, znr_v, znr_a, znr_o, znar_i, znar_r, znar_a, zfit_i, zfit_r, zfit_a, zbc, zlit, eq_self, List.getElem?_cons_zero, List.getElem?_cons_succ, List.set_cons_zero, List.set_cons_succ, List.take_succ_cons, List.take_zero, List.drop_succ_cons, List.drop_zero, List.reverse_cons, List.reverse_nil, List.nil_append, List.cons_append, List.append_nil, List.length_cons, List.length_nil, List.map_cons, List.map_nil, List.sum_cons, List.sum_nil, Option.toList_some, Option.toList_none, Nat.zero_add, Nat.add_zero, Bool.or_false, Bool.false_or, Bool.or_true, Bool.true_or, Bool.not_true, Bool.not_false, ge_iff_le, Fin.isValue, Fin.val_zero, Fin.val_one, Fin.val_two, true_and, and_true, true_implies, false_implies, forall_const, if_true, if_false, ite_true, ite_false, reduceIte, reduceCtorEq, true_or, or_true, and_self, implies_true, not_false_eq_true, not_true_eq_false, Nat.le_refl, Nat.zero_le, and_false, false_and, Nat.reduceAdd, Nat.reduceSub, Nat.reduceLT, Nat.reduceLeDiff, Nat.reduceMul, Nat.reduceEqDiff, Int.reduceAdd, Int.reduceNeg, Int.reduceToNat, Int.reduceLE, Int.reduceNatCast, Int.reduceSub, Int.reduceLT, Int.reduceEq, List.replicate_zero, List.replicate_succ, Int.reduceNatCast', Int32.reduceOfInt, Int32.reduceLT, Int32.reduceLE, Int32.reduceAdd, Int32.reduceSub, Int32.reduceMul, Int32.reduceToInt, Int32.reduceToNatClampNeg]
  repeat' (first | (intro _) | (apply And.intro))
  all_goals (first | exact hT | (simp only [f_hold, *, if_true, if_false, reduceIte, not_true_eq_false, not_false_eq_true] at hT; exact hT) | (simp [f_hold, *] at hT; exact hT) | (simp [f_hold, *] at hT ⊢; exact hT) | (simp_all [f_hold]; done))
def f_all (t v m x : Int32) : Int32 := if t = -1 then 1 else if f_cmp t (v &&& m) (x &&& m) = 0 then 0 else 1
def T_ST_allows : ClassId → ClassId → zT := fun _ _ as h K => match as with
  | [.ref i, .int x] => zob h i 3 (fun fs => match fs with
    | [.int t, .int v, .int m, _, _, _, _] => K (.inl (some (.int (f_all t v m x)))) h
    | _ => False)
  | _ => False
def E_ST_allows : ClassId → ClassId → Nat → Nat → Option zEn := fun cI cL kd i => match kd, i with
  | 0, 21 => some (3, none, true, true, 0, 0, T_PT_compares cI cL)
  | _, _ => none
theorem E_ST_allows_k : (∀ cI cL, E_ST_allows cI cL 0 21 = some (3, none, true, true, 0, 0, T_PT_compares cI cL)) := fun _ _ => rfl
set_option maxHeartbeats 4000000 in
set_option maxRecDepth 100000 in
theorem C_ST_allows {l : Launch} (hl : l.stackTraces = false) : zC l y_ST_allows (Cond.code y_ST_allows prog_6_method_2_code 2 (some .boolean) :: wsG) (rmL 2 0 0) zcl true 0 0 T_ST_allows := by
  refine zC_of (G := G_ST) (E := E_ST_allows) (X := zXn) (SL := zSn) (NW := zNn) (CS := zCn) (ctor := false) hl (by decide) rfl rfl rfl G_ST_ok (fun z => by cases z) (fun _ _ z => by cases z) (fun _ _ _ _ z => by cases z) (List.mem_cons_of_mem _ ka_i) (fun _ _ _ z => by cases z) (fun _ z => by cases z) (by
    intro p e s m args below meth c D A cI cL hx hb hml hown hts hK hA hEX kd idx en hE
    unfold E_ST_allows at hE
    split at hE
    · cases hE; exact zRow_S (C_PT_compares hl) rfl (Or.inl ⟨_, _, rfl⟩) hx hb hml hown hts hK hA hEX (hin_c kb_PT_compares) (List.mem_cons_of_mem _ kn_PT) (List.mem_cons_of_mem _ ks_PT_compares) (Or.inr ⟨_, List.mem_cons_of_mem _ km_ST_21⟩) (by decide) (by decide) (by decide) rfl rfl
    · cases hE) ?_
  intro cI cL as h K hT
  match as, hT with
  | [.ref i, .int x], hT =>
  obtain ⟨fs, hi, hT⟩ := zob_s hT
  match fs, hi, hT with
  | [.int t, .int v, .int m, u0, u1, u2, u3], hi, hT =>
  have hT : K (.inl (some (.int (f_all t v m x)))) h := hT
  refine ⟨by simp [Value.category], by simp, fun Jd hc => zw_sound (J := fun _ => none) hc (fun _ _ z => by cases z) 26 0 _ _ _ _ _ _ ?_⟩
  simp (maxSteps := 4000000) only [zlc, zif0, zf3, D_ST_allows, G_ST_k, E_ST_allows_k, T_PT_compares, Classical.not_not, hi, zw_S, zk_iconst, zk_bipush, zk_sipush, zk_ldc, zk_ldc_w, zk_aconst_null, zk_iload_n, zk_iload, zk_aload_n, zk_aload, zk_istore_n, zk_istore, zk_astore_n, zk_astore, zk_iinc, zk_iadd, zk_isub, zk_imul, zk_idiv, zk_iand, zk_ior, zk_ixor, zk_ishl, zk_ishr, zk_iushr, zk_i2l, zk_lcmp, zk_dup, zk_pop, zk_dup_x1, zk_dup2, zk_dup_x2, zk_goto, zk_ifCond, zk_if_icmp, zk_tableswitch, zk_getfield, zk_putfield, zk_iaload, zk_iastore, zk_laload, zk_lastore, zk_arraylength, zk_invokestatic, zk_invokevirtual, zk_invokespecial, zk_new, zk_newarray, zk_ireturn, zk_areturn, zk_return_, zi1_k, zi2_k, zr1_k, zri_k, zrii_k, zril_k, zvr_k, zl2_k, zv1_k, zv2_k, zv3_k, zli_k, zlr_k, zob_k, zai_k, zal_k, zfv_k, zlim_k, zlrm_k, zobm_k, zaim_k, zalm_k, zfvm_k, zgetf_k, zput_k, zcal_k, zrv_n, zrv_s, zswT_n, zswT_c, zgo_k, zcc_eq, zcc_ne, zcc_lt, zcc_ge, zcc_gt, zcc_le, zldj_k, zexc_k, znew_k, zial_k, zct_i, zct_l, zct_r, zct_n, zKK_r, zKK_x, znr_i, znr_0, znr_1, znr_v, znr_a, znr_o, znar_i, znar_r, znar_a, zfit_i, zfit_r, zfit_a, zbc, zlit, eq_self, List.getElem?_cons_zero, List.getElem?_cons_succ, List.set_cons_zero, List.set_cons_succ, List.take_succ_cons, List.take_zero, List.drop_succ_cons, List.drop_zero, List.reverse_cons, List.reverse_nil, List.nil_append, List.cons_append, List.append_nil, List.length_cons, List.length_nil, List.map_cons, List.map_nil, List.sum_cons, List.sum_nil, Option.toList_some, Option.toList_none, Nat.zero_add, Nat.add_zero, Bool.or_false, Bool.false_or, Bool.or_true, Bool.true_or, Bool.not_true, Bool.not_false, ge_iff_le, Fin.isValue, Fin.val_zero, Fin.val_one, Fin.val_two, true_and, and_true, true_implies, false_implies, forall_const, if_true, if_false, ite_true, ite_false, reduceIte, reduceCtorEq, true_or, or_true, and_self, implies_true, not_false_eq_true, not_true_eq_false, Nat.le_refl, Nat.zero_le, and_false, false_and, Nat.reduceAdd, Nat.reduceSub, Nat.reduceLT, Nat.reduceLeDiff, Nat.reduceMul, Nat.reduceEqDiff, Int.reduceAdd, Int.reduceNeg, Int.reduceToNat, Int.reduceLE, Int.reduceNatCast, Int.reduceSub, Int.reduceLT, Int.reduceEq, List.replicate_zero, List.replicate_succ, Int.reduceNatCast', Int32.reduceOfInt, Int32.reduceLT, Int32.reduceLE, Int32.reduceAdd, Int32.reduceSub, Int32.reduceMul, Int32.reduceToInt, Int32.reduceToNatClampNeg]
  repeat' (first | (intro _) | (apply And.intro))
  all_goals (first | exact hT | (simp only [f_all, *, if_true, if_false, reduceIte, not_true_eq_false, not_false_eq_true] at hT; exact hT) | (simp [f_all, *] at hT; exact hT) | (simp [f_all, *] at hT ⊢; exact hT) | (simp_all [f_all]; done))
def f_deed (v x d : Int32) : Int32 := if d = 1 then 0 else if d = 2 then v else if d = 3 then (if 255 < x + 1 then 255 else x + 1) else if d = 4 then (if x - 1 < 0 then 0 else x - 1) else if d = 5 then (x ^^^ (-1)) &&& 255 else if d = 6 then (x + 1) &&& 255 else if d = 7 then (x - 1) &&& 255 else x
def T_ST_afterDeed : ClassId → ClassId → zT := fun _ _ as h K => match as with
  | [.ref i, .int x, .int d] => zob h i 3 (fun fs => match fs with
    | [_, .int v, _, _, _, _, _] => K (.inl (some (.int (f_deed v x d)))) h
    | _ => False)
  | _ => False
def E_ST_afterDeed : ClassId → ClassId → Nat → Nat → Option zEn := fun cI cL kd i => match kd, i with
  | 0, 36 => some (2, none, true, true, 0, 0, zT_min)
  | 0, 41 => some (2, none, true, true, 0, 0, zT_max)
  | _, _ => none
theorem E_ST_afterDeed_k : (∀ cI cL, E_ST_afterDeed cI cL 0 36 = some (2, none, true, true, 0, 0, zT_min)) ∧ (∀ cI cL, E_ST_afterDeed cI cL 0 41 = some (2, none, true, true, 0, 0, zT_max)) := ⟨fun _ _ => rfl, fun _ _ => rfl⟩
set_option maxHeartbeats 4000000 in
set_option maxRecDepth 100000 in
theorem C_ST_afterDeed {l : Launch} (hl : l.stackTraces = false) : zC l y_ST_afterDeed (Cond.code y_ST_afterDeed prog_6_method_4_code 3 (some .int) :: wsG) (rmL 1 0 0) zcl true 0 0 T_ST_afterDeed := by
  refine zC_of (G := G_ST) (E := E_ST_afterDeed) (X := zXn) (SL := zSn) (NW := zNn) (CS := zCn) (ctor := false) hl (by decide) rfl rfl rfl G_ST_ok (fun z => by cases z) (fun _ _ z => by cases z) (fun _ _ _ _ z => by cases z) (List.mem_cons_of_mem _ ka_i) (fun _ _ _ z => by cases z) (fun _ z => by cases z) (by
    intro p e s m args below meth c D A cI cL hx hb hml hown hts hK hA hEX kd idx en hE
    unfold E_ST_afterDeed at hE
    split at hE
    · cases hE; exact zRow_min hx hb hml hown hts (List.mem_cons_of_mem _ km_ST_36) (List.mem_cons_of_mem _ kj_s_min) (List.mem_cons_of_mem _ kj_n) (List.mem_cons_of_mem _ kj_c_min) (by decide) (by decide)
    · cases hE; exact zRow_max hx hb hml hown hts (List.mem_cons_of_mem _ km_ST_41) (List.mem_cons_of_mem _ kj_s_max) (List.mem_cons_of_mem _ kj_n) (List.mem_cons_of_mem _ kj_c_max) (by decide) (by decide)
    · cases hE) ?_
  intro cI cL as h K hT
  match as, hT with
  | [.ref i, .int x, .int d], hT =>
  obtain ⟨fs, hi, hT⟩ := zob_s hT
  match fs, hi, hT with
  | [u0, .int v, u1, u2, u3, u4, u5], hi, hT =>
  have hT : K (.inl (some (.int (f_deed v x d)))) h := hT
  refine ⟨by simp [Value.category], by simp, fun Jd hc => zw_sound (J := fun _ => none) hc (fun _ _ z => by cases z) 44 0 _ _ _ _ _ _ ?_⟩
  simp (maxSteps := 4000000) only [zlc, zif0, zf3, D_ST_afterDeed, G_ST_k, E_ST_afterDeed_k, zT_min, zT_max, zti, Classical.not_not, hi, zw_S, zk_iconst, zk_bipush, zk_sipush, zk_ldc, zk_ldc_w, zk_aconst_null, zk_iload_n, zk_iload, zk_aload_n, zk_aload, zk_istore_n, zk_istore, zk_astore_n, zk_astore, zk_iinc, zk_iadd, zk_isub, zk_imul, zk_idiv, zk_iand, zk_ior, zk_ixor, zk_ishl, zk_ishr, zk_iushr, zk_i2l, zk_lcmp, zk_dup, zk_pop, zk_dup_x1, zk_dup2, zk_dup_x2, zk_goto, zk_ifCond, zk_if_icmp, zk_tableswitch, zk_getfield, zk_putfield, zk_iaload, zk_iastore, zk_laload, zk_lastore, zk_arraylength, zk_invokestatic, zk_invokevirtual, zk_invokespecial, zk_new, zk_newarray, zk_ireturn, zk_areturn, zk_return_, zi1_k, zi2_k, zr1_k, zri_k, zrii_k, zril_k, zvr_k, zl2_k, zv1_k, zv2_k, zv3_k, zli_k, zlr_k, zob_k, zai_k, zal_k, zfv_k, zlim_k, zlrm_k, zobm_k, zaim_k, zalm_k, zfvm_k, zgetf_k, zput_k, zcal_k, zrv_n, zrv_s, zswT_n, zswT_c, zgo_k, zcc_eq, zcc_ne, zcc_lt, zcc_ge, zcc_gt, zcc_le, zldj_k, zexc_k, znew_k, zial_k, zct_i, zct_l, zct_r, zct_n, zKK_r, zKK_x, znr_i, znr_0, znr_1, znr_v, znr_a, znr_o, znar_i, znar_r, znar_a, zfit_i, zfit_r, zfit_a, zbc, zlit, eq_self, List.getElem?_cons_zero, List.getElem?_cons_succ, List.set_cons_zero, List.set_cons_succ, List.take_succ_cons, List.take_zero, List.drop_succ_cons, List.drop_zero, List.reverse_cons, List.reverse_nil, List.nil_append, List.cons_append, List.append_nil, List.length_cons, List.length_nil, List.map_cons, List.map_nil, List.sum_cons, List.sum_nil, Option.toList_some, Option.toList_none, Nat.zero_add, Nat.add_zero, Bool.or_false, Bool.false_or, Bool.or_true, Bool.true_or, Bool.not_true, Bool.not_false, ge_iff_le, Fin.isValue, Fin.val_zero, Fin.val_one, Fin.val_two, true_and, and_true, true_implies, false_implies, forall_const, if_true, if_false, ite_true, ite_false, reduceIte, reduceCtorEq, true_or, or_true, and_self, implies_true, not_false_eq_true, not_true_eq_false, Nat.le_refl, Nat.zero_le, and_false, false_and, Nat.reduceAdd, Nat.reduceSub, Nat.reduceLT, Nat.reduceLeDiff, Nat.reduceMul, Nat.reduceEqDiff, Int.reduceAdd, Int.reduceNeg, Int.reduceToNat, Int.reduceLE, Int.reduceNatCast, Int.reduceSub, Int.reduceLT, Int.reduceEq, List.replicate_zero, List.replicate_succ, Int.reduceNatCast', Int32.reduceOfInt, Int32.reduceLT, Int32.reduceLE, Int32.reduceAdd, Int32.reduceSub, Int32.reduceMul, Int32.reduceToInt, Int32.reduceToNatClampNeg]
  repeat' (first | (intro _) | (apply And.intro))
  all_goals (first | exact hT | (simp only [f_deed, *, if_true, if_false, reduceIte, not_true_eq_false, not_false_eq_true] at hT; exact hT) | (simp [f_deed, *] at hT; exact hT) | (simp [f_deed, *] at hT ⊢; exact hT) | (simp_all [f_deed]; done))
def T_ST_changed : ClassId → ClassId → zT := fun _ _ as h K => match as with
  | [.ref i, .int x, .int d] => zob h i 3 (fun fs => match fs with
    | [.int t, .int v, _, .int w, _, _, _] => K (.inl (some (.int (if t = -1 then x else f_mrg x (f_deed v x d) w)))) h
    | _ => False)
  | _ => False
def E_ST_changed : ClassId → ClassId → Nat → Nat → Option zEn := fun cI cL kd i => match kd, i with
  | 1, 25 => some (3, some 3, true, true, 0, 0, T_ST_afterDeed cI cL)
  | 0, 32 => some (3, none, true, true, 0, 0, T_PT_merged cI cL)
  | _, _ => none
theorem E_ST_changed_k : (∀ cI cL, E_ST_changed cI cL 1 25 = some (3, some 3, true, true, 0, 0, T_ST_afterDeed cI cL)) ∧ (∀ cI cL, E_ST_changed cI cL 0 32 = some (3, none, true, true, 0, 0, T_PT_merged cI cL)) := ⟨fun _ _ => rfl, fun _ _ => rfl⟩
set_option maxHeartbeats 4000000 in
set_option maxRecDepth 100000 in
theorem C_ST_changed {l : Launch} (hl : l.stackTraces = false) : zC l y_ST_changed (Cond.code y_ST_changed prog_6_method_3_code 3 (some .int) :: wsG) (rmL 2 0 0) zcl true 0 0 T_ST_changed := by
  refine zC_of (G := G_ST) (E := E_ST_changed) (X := zXn) (SL := zSn) (NW := zNn) (CS := zCn) (ctor := false) hl (by decide) rfl rfl rfl G_ST_ok (fun z => by cases z) (fun _ _ z => by cases z) (fun _ _ _ _ z => by cases z) (List.mem_cons_of_mem _ ka_i) (fun _ _ _ z => by cases z) (fun _ z => by cases z) (by
    intro p e s m args below meth c D A cI cL hx hb hml hown hts hK hA hEX kd idx en hE
    unfold E_ST_changed at hE
    split at hE
    · cases hE; exact zRow_V (C_ST_afterDeed hl) rfl (Or.inl ⟨_, _, rfl⟩) hx hb hml hown hts hK hA hEX (hin_c kb_ST_afterDeed) (List.mem_cons_of_mem _ kn_ST) (List.mem_cons_of_mem _ ki_ST_afterDeed) (List.mem_cons_of_mem _ kv_ST_afterDeed) rfl (Or.inl (List.mem_cons_of_mem _ km_ST_25)) (by decide) (by decide) (by decide) rfl rfl
    · cases hE; exact zRow_S (C_PT_merged hl) rfl (Or.inl ⟨_, _, rfl⟩) hx hb hml hown hts hK hA hEX (hin_c kb_PT_merged) (List.mem_cons_of_mem _ kn_PT) (List.mem_cons_of_mem _ ks_PT_merged) (Or.inr ⟨_, List.mem_cons_of_mem _ km_ST_32⟩) (by decide) (by decide) (by decide) rfl rfl
    · cases hE) ?_
  intro cI cL as h K hT
  match as, hT with
  | [.ref i, .int x, .int d], hT =>
  obtain ⟨fs, hi, hT⟩ := zob_s hT
  match fs, hi, hT with
  | [.int t, .int v, u0, .int w, u1, u2, u3], hi, hT =>
  have hT : K (.inl (some (.int (if t = -1 then x else f_mrg x (f_deed v x d) w)))) h := hT
  refine ⟨by simp [Value.category], by simp, fun Jd hc => zw_sound (J := fun _ => none) hc (fun _ _ z => by cases z) 20 0 _ _ _ _ _ _ ?_⟩
  simp (maxSteps := 4000000) only [zlc, zif0, zf3, D_ST_changed, G_ST_k, E_ST_changed_k, T_ST_afterDeed, T_PT_merged, Classical.not_not, hi, zw_S, zk_iconst, zk_bipush, zk_sipush, zk_ldc, zk_ldc_w, zk_aconst_null, zk_iload_n, zk_iload, zk_aload_n, zk_aload, zk_istore_n, zk_istore, zk_astore_n, zk_astore, zk_iinc, zk_iadd, zk_isub, zk_imul, zk_idiv, zk_iand, zk_ior, zk_ixor, zk_ishl, zk_ishr, zk_iushr, zk_i2l, zk_lcmp, zk_dup, zk_pop, zk_dup_x1, zk_dup2, zk_dup_x2, zk_goto, zk_ifCond, zk_if_icmp, zk_tableswitch, zk_getfield, zk_putfield, zk_iaload, zk_iastore, zk_laload, zk_lastore, zk_arraylength, zk_invokestatic, zk_invokevirtual, zk_invokespecial, zk_new, zk_newarray, zk_ireturn, zk_areturn, zk_return_, zi1_k, zi2_k, zr1_k, zri_k, zrii_k, zril_k, zvr_k, zl2_k, zv1_k, zv2_k, zv3_k, zli_k, zlr_k, zob_k, zai_k, zal_k, zfv_k, zlim_k, zlrm_k, zobm_k, zaim_k, zalm_k, zfvm_k, zgetf_k, zput_k, zcal_k, zrv_n, zrv_s, zswT_n, zswT_c, zgo_k, zcc_eq, zcc_ne, zcc_lt, zcc_ge, zcc_gt, zcc_le, zldj_k, zexc_k, znew_k, zial_k, zct_i, zct_l, zct_r, zct_n, zKK_r, zKK_x, znr_i, znr_0, znr_1, znr_v, znr_a, znr_o, znar_i, znar_r, znar_a, zfit_i, zfit_r, zfit_a, zbc, zlit, eq_self, List.getElem?_cons_zero, List.getElem?_cons_succ, List.set_cons_zero, List.set_cons_succ, List.take_succ_cons, List.take_zero, List.drop_succ_cons, List.drop_zero, List.reverse_cons, List.reverse_nil, List.nil_append, List.cons_append, List.append_nil, List.length_cons, List.length_nil, List.map_cons, List.map_nil, List.sum_cons, List.sum_nil, Option.toList_some, Option.toList_none, Nat.zero_add, Nat.add_zero, Bool.or_false, Bool.false_or, Bool.or_true, Bool.true_or, Bool.not_true, Bool.not_false, ge_iff_le, Fin.isValue, Fin.val_zero, Fin.val_one, Fin.val_two, true_and, and_true, true_implies, false_implies, forall_const, if_true, if_false, ite_true, ite_false, reduceIte, reduceCtorEq, true_or, or_true, and_self, implies_true, not_false_eq_true, not_true_eq_false, Nat.le_refl, Nat.zero_le, and_false, false_and, Nat.reduceAdd, Nat.reduceSub, Nat.reduceLT, Nat.reduceLeDiff, Nat.reduceMul, Nat.reduceEqDiff, Int.reduceAdd, Int.reduceNeg, Int.reduceToNat, Int.reduceLE, Int.reduceNatCast, Int.reduceSub, Int.reduceLT, Int.reduceEq, List.replicate_zero, List.replicate_succ, Int.reduceNatCast', Int32.reduceOfInt, Int32.reduceLT, Int32.reduceLE, Int32.reduceAdd, Int32.reduceSub, Int32.reduceMul, Int32.reduceToInt, Int32.reduceToNatClampNeg]
  repeat' (first | (intro _) | (apply And.intro))
  all_goals (first | exact hT | (simp only [*, if_true, if_false, reduceIte, not_true_eq_false, not_false_eq_true] at hT; exact hT) | (simp [*] at hT; exact hT) | (simp [*] at hT ⊢; exact hT) | (simp_all []; done))
def f_fac (c n p q s : Int32) : Int32 := if n = 1 then 255 else if n = 2 then f_ch p s else if n = 3 then 255 - f_ch p s else if n = 4 then f_ch q s else if n = 5 then 255 - f_ch q s else if n = 6 then f_ch p 24 else if n = 7 then 255 - f_ch p 24 else if n = 8 then f_ch q 24 else if n = 9 then 255 - f_ch q 24 else if n = 10 then f_ch c s else if n = 11 then 255 - f_ch c s else if n = 12 then f_ch c 24 else if n = 13 then 255 - f_ch c 24 else if n = 14 then (if s = 24 then 255 else (if 255 - f_ch q 24 < f_ch p 24 then 255 - f_ch q 24 else f_ch p 24)) else 0
def T_BL_factor : ClassId → ClassId → zT := fun _ _ as h K => match as with
  | [.ref i, .int n, .int p, .int q, .int s] => zob h i 4 (fun fs => match fs with
    | [_, _, _, _, _, _, .int c] => K (.inl (some (.int (f_fac c n p q s)))) h
    | _ => False)
  | _ => False
def E_BL_factor : ClassId → ClassId → Nat → Nat → Option zEn := fun cI cL kd i => match kd, i with
  | 0, 21 => some (2, none, true, true, 0, 0, T_CO_channel cI cL)
  | 0, 48 => some (2, none, true, true, 0, 0, zT_min)
  | _, _ => none
theorem E_BL_factor_k : (∀ cI cL, E_BL_factor cI cL 0 21 = some (2, none, true, true, 0, 0, T_CO_channel cI cL)) ∧ (∀ cI cL, E_BL_factor cI cL 0 48 = some (2, none, true, true, 0, 0, zT_min)) := ⟨fun _ _ => rfl, fun _ _ => rfl⟩
set_option maxHeartbeats 4000000 in
set_option maxRecDepth 100000 in
theorem C_BL_factor {l : Launch} (hl : l.stackTraces = false) : zC l y_BL_factor (Cond.code y_BL_factor prog_2_method_4_code 7 (some .int) :: wsG) (rmL 2 0 0) zcl true 0 0 T_BL_factor := by
  refine zC_of (G := G_BL) (E := E_BL_factor) (X := zXn) (SL := zSn) (NW := zNn) (CS := zCn) (ctor := false) hl (by decide) rfl rfl rfl G_BL_ok (fun z => by cases z) (fun _ _ z => by cases z) (fun _ _ _ _ z => by cases z) (List.mem_cons_of_mem _ ka_i) (fun _ _ _ z => by cases z) (fun _ z => by cases z) (by
    intro p e s m args below meth c D A cI cL hx hb hml hown hts hK hA hEX kd idx en hE
    unfold E_BL_factor at hE
    split at hE
    · cases hE; exact zRow_S (C_CO_channel hl) rfl (Or.inl ⟨_, _, rfl⟩) hx hb hml hown hts hK hA hEX (hin_c kb_CO_channel) (List.mem_cons_of_mem _ kn_CO) (List.mem_cons_of_mem _ ks_CO_channel) (Or.inr ⟨_, List.mem_cons_of_mem _ km_BL_21⟩) (by decide) (by decide) (by decide) rfl rfl
    · cases hE; exact zRow_min hx hb hml hown hts (List.mem_cons_of_mem _ km_BL_48) (List.mem_cons_of_mem _ kj_s_min) (List.mem_cons_of_mem _ kj_n) (List.mem_cons_of_mem _ kj_c_min) (by decide) (by decide)
    · cases hE) ?_
  intro cI cL as h K hT
  match as, hT with
  | [.ref i, .int n, .int p, .int q, .int s], hT =>
  obtain ⟨fs, hi, hT⟩ := zob_s hT
  match fs, hi, hT with
  | [u0, u1, u2, u3, u4, u5, .int c], hi, hT =>
  have hT : K (.inl (some (.int (f_fac c n p q s)))) h := hT
  refine ⟨by simp [Value.category], by simp, fun Jd hc => zw_sound (J := fun _ => none) hc (fun _ _ z => by cases z) 86 0 _ _ _ _ _ _ ?_⟩
  simp (maxSteps := 4000000) only [zlc, zif0, zf3, D_BL_factor_0, D_BL_factor_1, G_BL_k, E_BL_factor_k, T_CO_channel, zT_min, zti, Classical.not_not, hi, zw_S, zk_iconst, zk_bipush, zk_sipush, zk_ldc, zk_ldc_w, zk_aconst_null, zk_iload_n, zk_iload, zk_aload_n, zk_aload, zk_istore_n, zk_istore, zk_astore_n, zk_astore, zk_iinc, zk_iadd, zk_isub, zk_imul, zk_idiv, zk_iand, zk_ior, zk_ixor, zk_ishl, zk_ishr, zk_iushr, zk_i2l, zk_lcmp, zk_dup, zk_pop, zk_dup_x1, zk_dup2, zk_dup_x2, zk_goto, zk_ifCond, zk_if_icmp, zk_tableswitch, zk_getfield, zk_putfield, zk_iaload, zk_iastore, zk_laload, zk_lastore, zk_arraylength, zk_invokestatic, zk_invokevirtual, zk_invokespecial, zk_new, zk_newarray, zk_ireturn, zk_areturn, zk_return_, zi1_k, zi2_k, zr1_k, zri_k, zrii_k, zril_k, zvr_k, zl2_k, zv1_k, zv2_k, zv3_k, zli_k, zlr_k, zob_k, zai_k, zal_k, zfv_k, zlim_k, zlrm_k, zobm_k, zaim_k, zalm_k, zfvm_k, zgetf_k, zput_k, zcal_k, zrv_n, zrv_s, zswT_n, zswT_c, zgo_k, zcc_eq, zcc_ne, zcc_lt, zcc_ge, zcc_gt, zcc_le, zldj_k, zexc_k, znew_k, zial_k, zct_i, zct_l, zct_r, zct_n, zKK_r, zKK_x, znr_i, znr_0, znr_1, znr_v, znr_a, znr_o, znar_i, znar_r, znar_a, zfit_i, zfit_r, zfit_a, zbc, zlit, eq_self, List.getElem?_cons_zero, List.getElem?_cons_succ, List.set_cons_zero, List.set_cons_succ, List.take_succ_cons, List.take_zero, List.drop_succ_cons, List.drop_zero, List.reverse_cons, List.reverse_nil, List.nil_append, List.cons_append, List.append_nil, List.length_cons, List.length_nil, List.map_cons, List.map_nil, List.sum_cons, List.sum_nil, Option.toList_some, Option.toList_none, Nat.zero_add, Nat.add_zero, Bool.or_false, Bool.false_or, Bool.or_true, Bool.true_or, Bool.not_true, Bool.not_false, ge_iff_le, Fin.isValue, Fin.val_zero, Fin.val_one, Fin.val_two, true_and, and_true, true_implies, false_implies, forall_const, if_true, if_false, ite_true, ite_false, reduceIte, reduceCtorEq, true_or, or_true, and_self, implies_true, not_false_eq_true, not_true_eq_false, Nat.le_refl, Nat.zero_le, and_false, false_and, Nat.reduceAdd, Nat.reduceSub, Nat.reduceLT, Nat.reduceLeDiff, Nat.reduceMul, Nat.reduceEqDiff, Int.reduceAdd, Int.reduceNeg, Int.reduceToNat, Int.reduceLE, Int.reduceNatCast, Int.reduceSub, Int.reduceLT, Int.reduceEq, List.replicate_zero, List.replicate_succ, Int.reduceNatCast', Int32.reduceOfInt, Int32.reduceLT, Int32.reduceLE, Int32.reduceAdd, Int32.reduceSub, Int32.reduceMul, Int32.reduceToInt, Int32.reduceToNatClampNeg]
  repeat' (first | (intro _) | (apply And.intro))
  all_goals (first | exact hT | (simp only [f_fac, *, if_true, if_false, reduceIte, not_true_eq_false, not_false_eq_true] at hT; exact hT) | (simp [f_fac, *] at hT; exact hT) | (simp [f_fac, *] at hT ⊢; exact hT) | (simp_all [f_fac]; done))
end
section
def f_eq (e u v x y : Int32) : Int32 := if e = 0 then f_bw (x + y) else if e = 1 then f_bw (x - y) else if e = 2 then f_bw (y - x) else if e = 3 then (if v < u then v else u) else (if u < v then v else u)
def f_bc (s0 p0 s1 p1 e0 e1 c p q s : Int32) : Int32 := if ¬ s = 24 then f_eq e0 (f_ch p s) (f_ch q s) (f_ch p s * f_fac c s0 p q s) (f_ch q s * f_fac c p0 p q s) else f_eq e1 (f_ch p s) (f_ch q s) (f_ch p s * f_fac c s1 p q s) (f_ch q s * f_fac c p1 p q s)
def T_BL_blendedChannel : ClassId → ClassId → zT := fun _ _ as h K => match as with
  | [.ref i, .int p, .int q, .int s] => zob h i 4 (fun fs => match fs with
    | [.int s0, .int p0, .int s1, .int p1, .int e0, .int e1, .int c] => K (.inl (some (.int (f_bc s0 p0 s1 p1 e0 e1 c p q s)))) h
    | _ => False)
  | _ => False
def E_BL_blendedChannel : ClassId → ClassId → Nat → Nat → Option zEn := fun cI cL kd i => match kd, i with
  | 0, 21 => some (2, none, true, true, 0, 0, T_CO_channel cI cL)
  | 1, 31 => some (5, some 4, true, true, 0, 0, T_BL_factor cI cL)
  | 0, 44 => some (1, none, true, true, 0, 0, T_BL_byteOfWeighted cI cL)
  | 0, 48 => some (2, none, true, true, 0, 0, zT_min)
  | 0, 53 => some (2, none, true, true, 0, 0, zT_max)
  | _, _ => none
theorem E_BL_blendedChannel_k : (∀ cI cL, E_BL_blendedChannel cI cL 0 21 = some (2, none, true, true, 0, 0, T_CO_channel cI cL)) ∧ (∀ cI cL, E_BL_blendedChannel cI cL 1 31 = some (5, some 4, true, true, 0, 0, T_BL_factor cI cL)) ∧ (∀ cI cL, E_BL_blendedChannel cI cL 0 44 = some (1, none, true, true, 0, 0, T_BL_byteOfWeighted cI cL)) ∧ (∀ cI cL, E_BL_blendedChannel cI cL 0 48 = some (2, none, true, true, 0, 0, zT_min)) ∧ (∀ cI cL, E_BL_blendedChannel cI cL 0 53 = some (2, none, true, true, 0, 0, zT_max)) := ⟨fun _ _ => rfl, fun _ _ => rfl, fun _ _ => rfl, fun _ _ => rfl, fun _ _ => rfl⟩
set_option maxHeartbeats 4000000 in
set_option maxRecDepth 100000 in
theorem C_BL_blendedChannel {l : Launch} (hl : l.stackTraces = false) : zC l y_BL_blendedChannel (Cond.code y_BL_blendedChannel prog_2_method_3_code 9 (some .int) :: wsG) (rmL 3 0 0) zcl true 0 0 T_BL_blendedChannel := by
  refine zC_of (G := G_BL) (E := E_BL_blendedChannel) (X := zXn) (SL := zSn) (NW := zNn) (CS := zCn) (ctor := false) hl (by decide) rfl rfl rfl G_BL_ok (fun z => by cases z) (fun _ _ z => by cases z) (fun _ _ _ _ z => by cases z) (List.mem_cons_of_mem _ ka_i) (fun _ _ _ z => by cases z) (fun _ z => by cases z) (by
    intro p e s m args below meth c D A cI cL hx hb hml hown hts hK hA hEX kd idx en hE
    unfold E_BL_blendedChannel at hE
    split at hE
    · cases hE; exact zRow_S (C_CO_channel hl) rfl (Or.inl ⟨_, _, rfl⟩) hx hb hml hown hts hK hA hEX (hin_c kb_CO_channel) (List.mem_cons_of_mem _ kn_CO) (List.mem_cons_of_mem _ ks_CO_channel) (Or.inr ⟨_, List.mem_cons_of_mem _ km_BL_21⟩) (by decide) (by decide) (by decide) rfl rfl
    · cases hE; exact zRow_V (C_BL_factor hl) rfl (Or.inl ⟨_, _, rfl⟩) hx hb hml hown hts hK hA hEX (hin_c kb_BL_factor) (List.mem_cons_of_mem _ kn_BL) (List.mem_cons_of_mem _ ki_BL_factor) (List.mem_cons_of_mem _ kv_BL_factor) rfl (Or.inl (List.mem_cons_of_mem _ km_BL_31)) (by decide) (by decide) (by decide) rfl rfl
    · cases hE; exact zRow_S (C_BL_byteOfWeighted hl) rfl (Or.inl ⟨_, _, rfl⟩) hx hb hml hown hts hK hA hEX (hin_c kb_BL_byteOfWeighted) (List.mem_cons_of_mem _ kn_BL) (List.mem_cons_of_mem _ ks_BL_byteOfWeighted) (Or.inl (List.mem_cons_of_mem _ km_BL_44)) (by decide) (by decide) (by decide) rfl rfl
    · cases hE; exact zRow_min hx hb hml hown hts (List.mem_cons_of_mem _ km_BL_48) (List.mem_cons_of_mem _ kj_s_min) (List.mem_cons_of_mem _ kj_n) (List.mem_cons_of_mem _ kj_c_min) (by decide) (by decide)
    · cases hE; exact zRow_max hx hb hml hown hts (List.mem_cons_of_mem _ km_BL_53) (List.mem_cons_of_mem _ kj_s_max) (List.mem_cons_of_mem _ kj_n) (List.mem_cons_of_mem _ kj_c_max) (by decide) (by decide)
    · cases hE) ?_
  intro cI cL as h K hT
  match as, hT with
  | [.ref i, .int p, .int q, .int s], hT =>
  obtain ⟨fs, hi, hT⟩ := zob_s hT
  match fs, hi, hT with
  | [.int s0, .int p0, .int s1, .int p1, .int e0, .int e1, .int c], hi, hT =>
  have hT : K (.inl (some (.int (f_bc s0 p0 s1 p1 e0 e1 c p q s)))) h := hT
  refine ⟨by simp [Value.category], by simp, fun Jd hc => zw_sound (J := fun _ => none) hc (fun _ _ z => by cases z) 81 0 _ _ _ _ _ _ ?_⟩
  simp (maxSteps := 4000000) only [zlc, zif0, zf3, D_BL_blendedChannel_0, D_BL_blendedChannel_1, G_BL_k, E_BL_blendedChannel_k, T_CO_channel, T_BL_factor, T_BL_byteOfWeighted, zT_min, zT_max, zti, Classical.not_not, hi, zw_S, zk_iconst, zk_bipush, zk_sipush, zk_ldc, zk_ldc_w, zk_aconst_null, zk_iload_n, zk_iload, zk_aload_n, zk_aload, zk_istore_n, zk_istore, zk_astore_n, zk_astore, zk_iinc, zk_iadd, zk_isub, zk_imul, zk_idiv, zk_iand, zk_ior, zk_ixor, zk_ishl, zk_ishr, zk_iushr, zk_i2l, zk_lcmp, zk_dup, zk_pop, zk_dup_x1, zk_dup2, zk_dup_x2, zk_goto, zk_ifCond, zk_if_icmp, zk_tableswitch, zk_getfield, zk_putfield, zk_iaload, zk_iastore, zk_laload, zk_lastore, zk_arraylength, zk_invokestatic, zk_invokevirtual, zk_invokespecial, zk_new, zk_newarray, zk_ireturn, zk_areturn, zk_return_, zi1_k, zi2_k, zr1_k, zri_k, zrii_k, zril_k, zvr_k, zl2_k, zv1_k, zv2_k, zv3_k, zli_k, zlr_k, zob_k, zai_k, zal_k, zfv_k, zlim_k, zlrm_k, zobm_k, zaim_k, zalm_k, zfvm_k, zgetf_k, zput_k, zcal_k, zrv_n, zrv_s, zswT_n, zswT_c, zgo_k, zcc_eq, zcc_ne, zcc_lt, zcc_ge, zcc_gt, zcc_le, zldj_k, zexc_k, znew_k, zial_k, zct_i, zct_l, zct_r, zct_n, zKK_r, zKK_x, znr_i, znr_0, znr_1, znr_v, znr_a, znr_o, znar_i, znar_r, znar_a, zfit_i, zfit_r, zfit_a, zbc, zlit, eq_self, List.getElem?_cons_zero, List.getElem?_cons_succ, List.set_cons_zero, List.set_cons_succ, List.take_succ_cons, List.take_zero, List.drop_succ_cons, List.drop_zero, List.reverse_cons, List.reverse_nil, List.nil_append, List.cons_append, List.append_nil, List.length_cons, List.length_nil, List.map_cons, List.map_nil, List.sum_cons, List.sum_nil, Option.toList_some, Option.toList_none, Nat.zero_add, Nat.add_zero, Bool.or_false, Bool.false_or, Bool.or_true, Bool.true_or, Bool.not_true, Bool.not_false, ge_iff_le, Fin.isValue, Fin.val_zero, Fin.val_one, Fin.val_two, true_and, and_true, true_implies, false_implies, forall_const, if_true, if_false, ite_true, ite_false, reduceIte, reduceCtorEq, true_or, or_true, and_self, implies_true, not_false_eq_true, not_true_eq_false, Nat.le_refl, Nat.zero_le, and_false, false_and, Nat.reduceAdd, Nat.reduceSub, Nat.reduceLT, Nat.reduceLeDiff, Nat.reduceMul, Nat.reduceEqDiff, Int.reduceAdd, Int.reduceNeg, Int.reduceToNat, Int.reduceLE, Int.reduceNatCast, Int.reduceSub, Int.reduceLT, Int.reduceEq, List.replicate_zero, List.replicate_succ, Int.reduceNatCast', Int32.reduceOfInt, Int32.reduceLT, Int32.reduceLE, Int32.reduceAdd, Int32.reduceSub, Int32.reduceMul, Int32.reduceToInt, Int32.reduceToNatClampNeg]
  simp only [f_bc, f_eq, zKi K, Classical.not_not] at hT ⊢
  exact hT
def f_bl (s0 p0 s1 p1 e0 e1 c p q : Int32) : Int32 := (((0 ||| (f_bc s0 p0 s1 p1 e0 e1 c p q 0 <<< ((0 : Int32) &&& 31))) ||| (f_bc s0 p0 s1 p1 e0 e1 c p q 8 <<< ((8 : Int32) &&& 31))) ||| (f_bc s0 p0 s1 p1 e0 e1 c p q 16 <<< ((16 : Int32) &&& 31))) ||| (f_bc s0 p0 s1 p1 e0 e1 c p q 24 <<< ((24 : Int32) &&& 31))
def T_BL_blended : ClassId → ClassId → zT := fun _ _ as h K => match as with
  | [.ref i, .int p, .int q] => zob h i 4 (fun fs => match fs with
    | [.int s0, .int p0, .int s1, .int p1, .int e0, .int e1, .int c] => K (.inl (some (.int (f_bl s0 p0 s1 p1 e0 e1 c p q)))) h
    | _ => False)
  | _ => False
def E_BL_blended : ClassId → ClassId → Nat → Nat → Option zEn := fun cI cL kd i => match kd, i with
  | 1, 17 => some (4, some 4, true, true, 0, 0, T_BL_blendedChannel cI cL)
  | _, _ => none
theorem E_BL_blended_k : (∀ cI cL, E_BL_blended cI cL 1 17 = some (4, some 4, true, true, 0, 0, T_BL_blendedChannel cI cL)) := fun _ _ => rfl
set_option maxHeartbeats 4000000 in
set_option maxRecDepth 100000 in
theorem C_BL_blended {l : Launch} (hl : l.stackTraces = false) : zC l y_BL_blended (Cond.code y_BL_blended prog_2_method_2_code 5 (some .int) :: wsG) (rmL 4 0 0) zcl true 0 0 T_BL_blended := by
  refine zC_of (G := zGn) (E := E_BL_blended) (X := zXn) (SL := zSn) (NW := zNn) (CS := zCn) (ctor := false) hl (by decide) rfl rfl rfl (fun _ _ _ _ _ z => by cases z) (fun z => by cases z) (fun _ _ z => by cases z) (fun _ _ _ _ z => by cases z) (List.mem_cons_of_mem _ ka_i) (fun _ _ _ z => by cases z) (fun _ z => by cases z) (by
    intro p e s m args below meth c D A cI cL hx hb hml hown hts hK hA hEX kd idx en hE
    unfold E_BL_blended at hE
    split at hE
    · cases hE; exact zRow_V (C_BL_blendedChannel hl) rfl (Or.inl ⟨_, _, rfl⟩) hx hb hml hown hts hK hA hEX (hin_c kb_BL_blendedChannel) (List.mem_cons_of_mem _ kn_BL) (List.mem_cons_of_mem _ ki_BL_blendedChannel) (List.mem_cons_of_mem _ kv_BL_blendedChannel) rfl (Or.inl (List.mem_cons_of_mem _ km_BL_17)) (by decide) (by decide) (by decide) rfl rfl
    · cases hE) ?_
  intro cI cL as h K hT
  match as, hT with
  | [.ref i, .int p, .int q], hT =>
  obtain ⟨fs, hi, hT⟩ := zob_s hT
  match fs, hi, hT with
  | [.int s0, .int p0, .int s1, .int p1, .int e0, .int e1, .int c], hi, hT =>
  have hT : K (.inl (some (.int (f_bl s0 p0 s1 p1 e0 e1 c p q)))) h := hT
  refine ⟨by simp [Value.category], by simp, fun Jd hc => zw_sound (J := fun _ => none) hc (fun _ _ z => by cases z) 90 0 _ _ _ _ _ _ ?_⟩
  simp (maxSteps := 4000000) only [zlc, zif0, zf3, D_BL_blended, E_BL_blended_k, T_BL_blendedChannel, Classical.not_not, hi, zw_S, zk_iconst, zk_bipush, zk_sipush, zk_ldc, zk_ldc_w, zk_aconst_null, zk_iload_n, zk_iload, zk_aload_n, zk_aload, zk_istore_n, zk_istore, zk_astore_n, zk_astore, zk_iinc, zk_iadd, zk_isub, zk_imul, zk_idiv, zk_iand, zk_ior, zk_ixor, zk_ishl, zk_ishr, zk_iushr, zk_i2l, zk_lcmp, zk_dup, zk_pop, zk_dup_x1, zk_dup2, zk_dup_x2, zk_goto, zk_ifCond, zk_if_icmp, zk_tableswitch, zk_getfield, zk_putfield, zk_iaload, zk_iastore, zk_laload, zk_lastore, zk_arraylength, zk_invokestatic, zk_invokevirtual, zk_invokespecial, zk_new, zk_newarray, zk_ireturn, zk_areturn, zk_return_, zi1_k, zi2_k, zr1_k, zri_k, zrii_k, zril_k, zvr_k, zl2_k, zv1_k, zv2_k, zv3_k, zli_k, zlr_k, zob_k, zai_k, zal_k, zfv_k, zlim_k, zlrm_k, zobm_k, zaim_k, zalm_k, zfvm_k, zgetf_k, zput_k, zcal_k, zrv_n, zrv_s, zswT_n, zswT_c, zgo_k, zcc_eq, zcc_ne, zcc_lt, zcc_ge, zcc_gt, zcc_le, zldj_k, zexc_k, znew_k, zial_k, zct_i, zct_l, zct_r, zct_n, zKK_r, zKK_x, znr_i, znr_0, znr_1, znr_v, znr_a, znr_o, znar_i, znar_r, znar_a, zfit_i, zfit_r, zfit_a, zbc, zlit, eq_self, List.getElem?_cons_zero, List.getElem?_cons_succ, List.set_cons_zero, List.set_cons_succ, List.take_succ_cons, List.take_zero, List.drop_succ_cons, List.drop_zero, List.reverse_cons, List.reverse_nil, List.nil_append, List.cons_append, List.append_nil, List.length_cons, List.length_nil, List.map_cons, List.map_nil, List.sum_cons, List.sum_nil, Option.toList_some, Option.toList_none, Nat.zero_add, Nat.add_zero, Bool.or_false, Bool.false_or, Bool.or_true, Bool.true_or, Bool.not_true, Bool.not_false, ge_iff_le, Fin.isValue, Fin.val_zero, Fin.val_one, Fin.val_two, true_and, and_true, true_implies, false_implies, forall_const, if_true, if_false, ite_true, ite_false, reduceIte, reduceCtorEq, true_or, or_true, and_self, implies_true, not_false_eq_true, not_true_eq_false, Nat.le_refl, Nat.zero_le, and_false, false_and, Nat.reduceAdd, Nat.reduceSub, Nat.reduceLT, Nat.reduceLeDiff, Nat.reduceMul, Nat.reduceEqDiff, Int.reduceAdd, Int.reduceNeg, Int.reduceToNat, Int.reduceLE, Int.reduceNatCast, Int.reduceSub, Int.reduceLT, Int.reduceEq, List.replicate_zero, List.replicate_succ, Int.reduceNatCast', Int32.reduceOfInt, Int32.reduceLT, Int32.reduceLE, Int32.reduceAdd, Int32.reduceSub, Int32.reduceMul, Int32.reduceToInt, Int32.reduceToNatClampNeg]
  exact hT
def f_b1 (n i s acc : Int32) : Int32 := if n &&& ((1 : Int32) <<< (i &&& 31)) = 0 then acc else acc ||| ((255 : Int32) <<< (s &&& 31))
def f_bits (n : Int32) : Int32 := f_b1 n 3 24 (f_b1 n 2 16 (f_b1 n 1 8 (f_b1 n 0 0 0)))
def T_CO_bitsOf : ClassId → ClassId → zT := fun _ _ as h K => match as with
  | [.int n] => K (.inl (some (.int (f_bits n)))) h
  | _ => False
set_option maxHeartbeats 4000000 in
set_option maxRecDepth 100000 in
theorem C_CO_bitsOf {l : Launch} (hl : l.stackTraces = false) : zC l y_CO_bitsOf (Cond.code y_CO_bitsOf prog_3_method_3_code 3 (some .int) :: wsG) (rmL 1 0 0) zcl true 0 0 T_CO_bitsOf := by
  refine zC_of (G := zGn) (E := zEn0) (X := zXn) (SL := zSn) (NW := zNn) (CS := zCn) (ctor := false) hl (by decide) rfl rfl rfl (fun _ _ _ _ _ z => by cases z) (fun z => by cases z) (fun _ _ z => by cases z) (fun _ _ _ _ z => by cases z) (List.mem_cons_of_mem _ ka_i) (fun _ _ _ z => by cases z) (fun _ z => by cases z) (fun _ _ _ _ _ _ _ _ _ _ _ _ _ _ _ _ _ _ _ _ _ _ _ z => by cases z) ?_
  intro cI cL as h K hT
  match as, hT with
  | [.int n], hT =>
  have hT : K (.inl (some (.int (f_bits n)))) h := hT
  refine ⟨by simp [Value.category], by simp, fun Jd hc => zw_sound (J := fun _ => none) hc (fun _ _ z => by cases z) 120 0 _ _ _ _ _ _ ?_⟩
  simp (maxSteps := 4000000) only [zlc, zif0, zf3, D_CO_bitsOf, Classical.not_not, zw_S, zk_iconst, zk_bipush, zk_sipush, zk_ldc, zk_ldc_w, zk_aconst_null, zk_iload_n, zk_iload, zk_aload_n, zk_aload, zk_istore_n, zk_istore, zk_astore_n, zk_astore, zk_iinc, zk_iadd, zk_isub, zk_imul, zk_idiv, zk_iand, zk_ior, zk_ixor, zk_ishl, zk_ishr, zk_iushr, zk_i2l, zk_lcmp, zk_dup, zk_pop, zk_dup_x1, zk_dup2, zk_dup_x2, zk_goto, zk_ifCond, zk_if_icmp, zk_tableswitch, zk_getfield, zk_putfield, zk_iaload, zk_iastore, zk_laload, zk_lastore, zk_arraylength, zk_invokestatic, zk_invokevirtual, zk_invokespecial, zk_new, zk_newarray, zk_ireturn, zk_areturn, zk_return_, zi1_k, zi2_k, zr1_k, zri_k, zrii_k, zril_k, zvr_k, zl2_k, zv1_k, zv2_k, zv3_k, zli_k, zlr_k, zob_k, zai_k, zal_k, zfv_k, zlim_k, zlrm_k, zobm_k, zaim_k, zalm_k, zfvm_k, zgetf_k, zput_k, zcal_k, zrv_n, zrv_s, zswT_n, zswT_c, zgo_k, zcc_eq, zcc_ne, zcc_lt, zcc_ge, zcc_gt, zcc_le, zldj_k, zexc_k, znew_k, zial_k, zct_i, zct_l, zct_r, zct_n, zKK_r, zKK_x, znr_i, znr_0, znr_1, znr_v, znr_a, znr_o, znar_i, znar_r, znar_a, zfit_i, zfit_r, zfit_a, zbc, zlit, eq_self, List.getElem?_cons_zero, List.getElem?_cons_succ, List.set_cons_zero, List.set_cons_succ, List.take_succ_cons, List.take_zero, List.drop_succ_cons, List.drop_zero, List.reverse_cons, List.reverse_nil, List.nil_append, List.cons_append, List.append_nil, List.length_cons, List.length_nil, List.map_cons, List.map_nil, List.sum_cons, List.sum_nil, Option.toList_some, Option.toList_none, Nat.zero_add, Nat.add_zero, Bool.or_false, Bool.false_or, Bool.or_true, Bool.true_or, Bool.not_true, Bool.not_false, ge_iff_le, Fin.isValue, Fin.val_zero, Fin.val_one, Fin.val_two, true_and, and_true, true_implies, false_implies, forall_const, if_true, if_false, ite_true, ite_false, reduceIte, reduceCtorEq, true_or, or_true, and_self, implies_true, not_false_eq_true, not_true_eq_false, Nat.le_refl, Nat.zero_le, and_false, false_and, Nat.reduceAdd, Nat.reduceSub, Nat.reduceLT, Nat.reduceLeDiff, Nat.reduceMul, Nat.reduceEqDiff, Int.reduceAdd, Int.reduceNeg, Int.reduceToNat, Int.reduceLE, Int.reduceNatCast, Int.reduceSub, Int.reduceLT, Int.reduceEq, List.replicate_zero, List.replicate_succ, Int.reduceNatCast', Int32.reduceOfInt, Int32.reduceLT, Int32.reduceLE, Int32.reduceAdd, Int32.reduceSub, Int32.reduceMul, Int32.reduceToInt, Int32.reduceToNatClampNeg]
  repeat' (first | (intro _) | (apply And.intro))
  all_goals (first | exact hT | (simp only [f_bits, f_b1, *, if_true, if_false, reduceIte, not_true_eq_false, not_false_eq_true] at hT; exact hT) | (simp [f_bits, f_b1, *] at hT; exact hT) | (simp [f_bits, f_b1, *] at hT ⊢; exact hT) | (simp_all [f_bits, f_b1]; done))
def T_PT_ruleOf : ClassId → ClassId → zT := fun _ _ as h K => match as with
  | [.ref i, .int s] => zob h i 0 (fun fs => match fs with
    | [_, _, _, _, .ref a, .ref b, _, _, _, _] => (s = 0 → K (.inl (some (.ref a))) h) ∧ (¬ s = 0 → K (.inl (some (.ref b))) h)
    | _ => False)
  | _ => False
set_option maxHeartbeats 4000000 in
set_option maxRecDepth 100000 in
theorem C_PT_ruleOf {l : Launch} (hl : l.stackTraces = false) : zC l y_PT_ruleOf (Cond.code y_PT_ruleOf prog_1_method_18_code 2 (some (.object "PlaceTests$StencilRule")) :: wsG) (rmL 1 0 0) zcl true 0 0 T_PT_ruleOf := by
  refine zC_of (G := G_PT) (E := zEn0) (X := zXn) (SL := zSn) (NW := zNn) (CS := zCn) (ctor := false) hl (by decide) rfl rfl rfl G_PT_ok (fun z => by cases z) (fun _ _ z => by cases z) (fun _ _ _ _ z => by cases z) (List.mem_cons_of_mem _ ka_i) (fun _ _ _ z => by cases z) (fun _ z => by cases z) (fun _ _ _ _ _ _ _ _ _ _ _ _ _ _ _ _ _ _ _ _ _ _ _ z => by cases z) ?_
  intro cI cL as h K hT
  match as, hT with
  | [.ref i, .int s], hT =>
  obtain ⟨fs, hi, hT⟩ := zob_s hT
  match fs, hi, hT with
  | [u0, u1, u2, u3, .ref a, .ref b, u4, u5, u6, u7], hi, hT =>
  have hT : (s = 0 → K (.inl (some (.ref a))) h) ∧ (¬ s = 0 → K (.inl (some (.ref b))) h) := hT
  refine ⟨by simp [Value.category], by simp, fun Jd hc => zw_sound (J := fun _ => none) hc (fun _ _ z => by cases z) 13 0 _ _ _ _ _ _ ?_⟩
  simp (maxSteps := 4000000) only [zlc, zif0, zf3, D_PT_ruleOf, G_PT_k, Classical.not_not, hi, zw_S, zk_iconst, zk_bipush, zk_sipush, zk_ldc, zk_ldc_w, zk_aconst_null, zk_iload_n, zk_iload, zk_aload_n, zk_aload, zk_istore_n, zk_istore, zk_astore_n, zk_astore, zk_iinc, zk_iadd, zk_isub, zk_imul, zk_idiv, zk_iand, zk_ior, zk_ixor, zk_ishl, zk_ishr, zk_iushr, zk_i2l, zk_lcmp, zk_dup, zk_pop, zk_dup_x1, zk_dup2, zk_dup_x2, zk_goto, zk_ifCond, zk_if_icmp, zk_tableswitch, zk_getfield, zk_putfield, zk_iaload, zk_iastore, zk_laload, zk_lastore, zk_arraylength, zk_invokestatic, zk_invokevirtual, zk_invokespecial, zk_new, zk_newarray, zk_ireturn, zk_areturn, zk_return_, zi1_k, zi2_k, zr1_k, zri_k, zrii_k, zril_k, zvr_k, zl2_k, zv1_k, zv2_k, zv3_k, zli_k, zlr_k, zob_k, zai_k, zal_k, zfv_k, zlim_k, zlrm_k, zobm_k, zaim_k, zalm_k, zfvm_k, zgetf_k, zput_k, zcal_k, zrv_n, zrv_s, zswT_n, zswT_c, zgo_k, zcc_eq, zcc_ne, zcc_lt, zcc_ge, zcc_gt, zcc_le, zldj_k, zexc_k, znew_k, zial_k, zct_i, zct_l, zct_r, zct_n, zKK_r, zKK_x, znr_i, znr_0, znr_1, znr_v, znr_a, znr_o, znar_i, znar_r, znar_a, zfit_i, zfit_r, zfit_a, zbc, zlit, eq_self, List.getElem?_cons_zero, List.getElem?_cons_succ, List.set_cons_zero, List.set_cons_succ, List.take_succ_cons, List.take_zero, List.drop_succ_cons, List.drop_zero, List.reverse_cons, List.reverse_nil, List.nil_append, List.cons_append, List.append_nil, List.length_cons, List.length_nil, List.map_cons, List.map_nil, List.sum_cons, List.sum_nil, Option.toList_some, Option.toList_none, Nat.zero_add, Nat.add_zero, Bool.or_false, Bool.false_or, Bool.or_true, Bool.true_or, Bool.not_true, Bool.not_false, ge_iff_le, Fin.isValue, Fin.val_zero, Fin.val_one, Fin.val_two, true_and, and_true, true_implies, false_implies, forall_const, if_true, if_false, ite_true, ite_false, reduceIte, reduceCtorEq, true_or, or_true, and_self, implies_true, not_false_eq_true, not_true_eq_false, Nat.le_refl, Nat.zero_le, and_false, false_and, Nat.reduceAdd, Nat.reduceSub, Nat.reduceLT, Nat.reduceLeDiff, Nat.reduceMul, Nat.reduceEqDiff, Int.reduceAdd, Int.reduceNeg, Int.reduceToNat, Int.reduceLE, Int.reduceNatCast, Int.reduceSub, Int.reduceLT, Int.reduceEq, List.replicate_zero, List.replicate_succ, Int.reduceNatCast', Int32.reduceOfInt, Int32.reduceLT, Int32.reduceLE, Int32.reduceAdd, Int32.reduceSub, Int32.reduceMul, Int32.reduceToInt, Int32.reduceToNatClampNeg]
  exact ⟨fun z => hT.2 z, fun z => hT.1 (by simpa using z)⟩
def f_new (lg s0 p0 s1 p1 e0 e1 c p q : Int32) : Int32 := if lg = -1 then (if e0 = -1 then p else f_bl s0 p0 s1 p1 e0 e1 c p q) else f_lg lg p q
def T_PT_newColour : ClassId → ClassId → zT := fun _ _ as h K => match as with
  | [.ref i, .int p, .int q] => zob h i 0 (fun fs => match fs with
    | [_, _, _, _, _, _, .ref b, .int lg, _, _] => zob h b 4 (fun bs => match bs with
      | [.int s0, .int p0, .int s1, .int p1, .int e0, .int e1, .int c] => K (.inl (some (.int (f_new lg s0 p0 s1 p1 e0 e1 c p q)))) h
      | _ => False)
    | _ => False)
  | _ => False
def E_PT_newColour : ClassId → ClassId → Nat → Nat → Option zEn := fun cI cL kd i => match kd, i with
  | 0, 254 => some (3, none, true, true, 0, 0, T_CO_byLogic cI cL)
  | 1, 257 => some (3, some 4, true, true, 0, 0, T_BL_blended cI cL)
  | _, _ => none
theorem E_PT_newColour_k : (∀ cI cL, E_PT_newColour cI cL 0 254 = some (3, none, true, true, 0, 0, T_CO_byLogic cI cL)) ∧ (∀ cI cL, E_PT_newColour cI cL 1 257 = some (3, some 4, true, true, 0, 0, T_BL_blended cI cL)) := ⟨fun _ _ => rfl, fun _ _ => rfl⟩
set_option maxHeartbeats 4000000 in
set_option maxRecDepth 100000 in
theorem C_PT_newColour {l : Launch} (hl : l.stackTraces = false) : zC l y_PT_newColour (Cond.code y_PT_newColour prog_1_method_16_code 3 (some .int) :: wsG) (rmL 5 0 0) zcl true 0 0 T_PT_newColour := by
  refine zC_of (G := G_PT) (E := E_PT_newColour) (X := zXn) (SL := zSn) (NW := zNn) (CS := zCn) (ctor := false) hl (by decide) rfl rfl rfl G_PT_ok (fun z => by cases z) (fun _ _ z => by cases z) (fun _ _ _ _ z => by cases z) (List.mem_cons_of_mem _ ka_i) (fun _ _ _ z => by cases z) (fun _ z => by cases z) (by
    intro p e s m args below meth c D A cI cL hx hb hml hown hts hK hA hEX kd idx en hE
    unfold E_PT_newColour at hE
    split at hE
    · cases hE; exact zRow_S (C_CO_byLogic hl) rfl (Or.inl ⟨_, _, rfl⟩) hx hb hml hown hts hK hA hEX (hin_c kb_CO_byLogic) (List.mem_cons_of_mem _ kn_CO) (List.mem_cons_of_mem _ ks_CO_byLogic) (Or.inr ⟨_, List.mem_cons_of_mem _ km_PT_254⟩) (by decide) (by decide) (by decide) rfl rfl
    · cases hE; exact zRow_V (C_BL_blended hl) rfl (Or.inl ⟨_, _, rfl⟩) hx hb hml hown hts hK hA hEX (hin_c kb_BL_blended) (List.mem_cons_of_mem _ kn_BL) (List.mem_cons_of_mem _ ki_BL_blended) (List.mem_cons_of_mem _ kv_BL_blended) rfl (Or.inr ⟨_, List.mem_cons_of_mem _ km_PT_257⟩) (by decide) (by decide) (by decide) rfl rfl
    · cases hE) ?_
  intro cI cL as h K hT
  match as, hT with
  | [.ref i, .int p, .int q], hT =>
  obtain ⟨fs, hi, hT⟩ := zob_s hT
  match fs, hi, hT with
  | [u0, u1, u2, u3, u4, u5, .ref b, .int lg, u6, u7], hi, hT =>
  obtain ⟨bs, hb, hT⟩ := zob_s hT
  match bs, hb, hT with
  | [.int s0, .int p0, .int s1, .int p1, .int e0, .int e1, .int c], hb, hT =>
  have hT : K (.inl (some (.int (f_new lg s0 p0 s1 p1 e0 e1 c p q)))) h := hT
  refine ⟨by simp [Value.category], by simp, fun Jd hc => zw_sound (J := fun _ => none) hc (fun _ _ z => by cases z) 28 0 _ _ _ _ _ _ ?_⟩
  simp (maxSteps := 4000000) only [zlc, zif0, zf3, D_PT_newColour, G_PT_k, E_PT_newColour_k, T_CO_byLogic, T_BL_blended, Classical.not_not, hi, hb, zw_S, zk_iconst, zk_bipush, zk_sipush, zk_ldc, zk_ldc_w, zk_aconst_null, zk_iload_n, zk_iload, zk_aload_n, zk_aload, zk_istore_n, zk_istore, zk_astore_n, zk_astore, zk_iinc, zk_iadd, zk_isub, zk_imul, zk_idiv, zk_iand, zk_ior, zk_ixor, zk_ishl, zk_ishr, zk_iushr, zk_i2l, zk_lcmp, zk_dup, zk_pop, zk_dup_x1, zk_dup2, zk_dup_x2, zk_goto, zk_ifCond, zk_if_icmp, zk_tableswitch, zk_getfield, zk_putfield, zk_iaload, zk_iastore, zk_laload, zk_lastore, zk_arraylength, zk_invokestatic, zk_invokevirtual, zk_invokespecial, zk_new, zk_newarray, zk_ireturn, zk_areturn, zk_return_, zi1_k, zi2_k, zr1_k, zri_k, zrii_k, zril_k, zvr_k, zl2_k, zv1_k, zv2_k, zv3_k, zli_k, zlr_k, zob_k, zai_k, zal_k, zfv_k, zlim_k, zlrm_k, zobm_k, zaim_k, zalm_k, zfvm_k, zgetf_k, zput_k, zcal_k, zrv_n, zrv_s, zswT_n, zswT_c, zgo_k, zcc_eq, zcc_ne, zcc_lt, zcc_ge, zcc_gt, zcc_le, zldj_k, zexc_k, znew_k, zial_k, zct_i, zct_l, zct_r, zct_n, zKK_r, zKK_x, znr_i, znr_0, znr_1, znr_v, znr_a, znr_o, znar_i, znar_r, znar_a, zfit_i, zfit_r, zfit_a, zbc, zlit, eq_self, List.getElem?_cons_zero, List.getElem?_cons_succ, List.set_cons_zero, List.set_cons_succ, List.take_succ_cons, List.take_zero, List.drop_succ_cons, List.drop_zero, List.reverse_cons, List.reverse_nil, List.nil_append, List.cons_append, List.append_nil, List.length_cons, List.length_nil, List.map_cons, List.map_nil, List.sum_cons, List.sum_nil, Option.toList_some, Option.toList_none, Nat.zero_add, Nat.add_zero, Bool.or_false, Bool.false_or, Bool.or_true, Bool.true_or, Bool.not_true, Bool.not_false, ge_iff_le, Fin.isValue, Fin.val_zero, Fin.val_one, Fin.val_two, true_and, and_true, true_implies, false_implies, forall_const, if_true, if_false, ite_true, ite_false, reduceIte, reduceCtorEq, true_or, or_true, and_self, implies_true, not_false_eq_true, not_true_eq_false, Nat.le_refl, Nat.zero_le, and_false, false_and, Nat.reduceAdd, Nat.reduceSub, Nat.reduceLT, Nat.reduceLeDiff, Nat.reduceMul, Nat.reduceEqDiff, Int.reduceAdd, Int.reduceNeg, Int.reduceToNat, Int.reduceLE, Int.reduceNatCast, Int.reduceSub, Int.reduceLT, Int.reduceEq, List.replicate_zero, List.replicate_succ, Int.reduceNatCast', Int32.reduceOfInt, Int32.reduceLT, Int32.reduceLE, Int32.reduceAdd, Int32.reduceSub, Int32.reduceMul, Int32.reduceToInt, Int32.reduceToNatClampNeg]
  repeat' (first | (intro _) | (apply And.intro))
  all_goals (first | exact hT | (simp only [f_new, *, if_true, if_false, reduceIte, not_true_eq_false, not_false_eq_true] at hT; exact hT) | (simp [f_new, *] at hT; exact hT) | (simp [f_new, *] at hT ⊢; exact hT) | (simp_all [f_new]; done))
end
section
abbrev cR : Type := Int32 × Int32 × Int32 × Int32 × Int32 × Int32 × Int32
/-- a state of PlaceTests: (depth's test, written, logic, colour bits), (room, x0, y0, wide, high, count), (length, colours, depths, stencils), scissors, front, back, blending, answers -/
abbrev cSt : Type := (Int32 × Int32 × Int32 × Int32) × (Int32 × Int32 × Int32 × Int32 × Int32 × Int32) × (Nat × (Nat → Int32) × (Nat → Int32) × (Nat → Int32)) × (Int32 × Int32 × Int32 × Int32) × cR × cR × cR × (Nat → Int32)
def hR (t : cR) : List Value := [.int t.1, .int t.2.1, .int t.2.2.1, .int t.2.2.2.1, .int t.2.2.2.2.1, .int t.2.2.2.2.2.1, .int t.2.2.2.2.2.2]
def hC (cI : ClassId) (c : cSt) (r : zH) : zH := .inr (0, [.ref 1, .ref 5, .int c.1.1, .int c.1.2.1, .ref 6, .ref 7, .ref 8, .int c.1.2.2.1, .int c.1.2.2.2, .ref 9]) :: .inr (1, [.int c.2.1.1, .ref 2, .ref 3, .ref 4, .int c.2.1.2.1, .int c.2.1.2.2.1, .int c.2.1.2.2.2.1, .int c.2.1.2.2.2.2.1, .int c.2.1.2.2.2.2.2]) :: .inl (cI, c.2.2.1.1, .inl c.2.2.1.2.1) :: .inl (cI, c.2.2.1.1, .inl c.2.2.1.2.2.1) :: .inl (cI, c.2.2.1.1, .inl c.2.2.1.2.2.2) :: .inr (2, [.int c.2.2.2.1.1, .int c.2.2.2.1.2.1, .int c.2.2.2.1.2.2.1, .int c.2.2.2.1.2.2.2]) :: .inr (3, hR c.2.2.2.2.1) :: .inr (3, hR c.2.2.2.2.2.1) :: .inr (4, hR c.2.2.2.2.2.2.1) :: .inl (cI, 4, .inl c.2.2.2.2.2.2.2) :: r
theorem zKp (K : zO → zH → Prop) (f : cSt → zH) {c : Prop} [Decidable c] (a b : zO × cSt) : K (if c then a else b).1 (f (if c then a else b).2) = ((c → K a.1 (f a.2)) ∧ (¬ c → K b.1 (f b.2))) := by
  by_cases z : c
  · simp [z]
  · simp [z]
def cIn (c : cSt) (x y : Int32) : Prop := match c with
  | (_, (_, fx, fy, fw, fh, _), (N, _, _, _), _) => ¬ f_has fx fy fw fh x y = 0 → vp_in (f_idx fx fy fw x y) N
theorem znb {w : Int32} (h : w = 0 ∨ w = 1) : narrow .boolean (.int w) = .int w ∧ fits .boolean (.int w) = true := by
  rcases h with rfl | rfl <;> decide
def f_PT_scissors (c : cSt) (x y z w : Int32) : zO × cSt := match c with
  | ((dt, dw, lg, cb), (rm, fx, fy, fw, fh, ct), (N, co, de, sn), (sa, sb, sd, se), (a0, a1, a2, a3, a4, a5, a6), (b0, b1, b2, b3, b4, b5, b6), (e0, e1, e2, e3, e4, e5, e6), an) => (.inl none, ((dt, dw, lg, cb), (rm, fx, fy, fw, fh, ct), (N, co, de, sn), (x, y, z, w), (a0, a1, a2, a3, a4, a5, a6), (b0, b1, b2, b3, b4, b5, b6), (e0, e1, e2, e3, e4, e5, e6), an))
def T_PT_scissors : ClassId → ClassId → zT := fun cI _ as h K => ∃ (c : cSt) (r : zH) (x y z w : Int32), as = [.ref 0, .int x, .int y, .int z, .int w] ∧ h = hC cI c r ∧ K (f_PT_scissors c x y z w).1 (hC cI (f_PT_scissors c x y z w).2 r)
set_option maxHeartbeats 4000000 in
set_option maxRecDepth 100000 in
theorem C_PT_scissors {l : Launch} (hl : l.stackTraces = false) : zC l y_PT_scissors (Cond.code y_PT_scissors prog_1_method_3_code 5 none :: wsG) (rmL 7 0 0) zcl false 0 0 T_PT_scissors := by
  refine zC_of (G := G_PT) (E := zEn0) (X := zXn) (SL := zSn) (NW := zNn) (CS := zCn) (ctor := false) hl (by decide) rfl rfl rfl G_PT_ok (fun z => by cases z) (fun _ _ z => by cases z) (fun _ _ _ _ z => by cases z) (List.mem_cons_of_mem _ ka_i) (fun _ _ _ z => by cases z) (fun _ z => by cases z) (fun _ _ _ _ _ _ _ _ _ _ _ _ _ _ _ _ _ _ _ _ _ _ _ z => by cases z) ?_
  intro cI cL as h K hT
  obtain ⟨⟨⟨dt, dw, lg, cb⟩, ⟨rm, fx, fy, fw, fh, ct⟩, ⟨N, co, de, sn⟩, ⟨sa, sb, sd, se⟩, ⟨a0, a1, a2, a3, a4, a5, a6⟩, ⟨b0, b1, b2, b3, b4, b5, b6⟩, ⟨e0, e1, e2, e3, e4, e5, e6⟩, an⟩, r, x, y, z, w, rfl, rfl, hT⟩ := hT
  refine ⟨by simp [Value.category], by simp, fun Jd hc => zw_sound (J := fun _ => none) hc (fun _ _ z => by cases z) 22 0 _ _ _ _ _ _ ?_⟩
  simp (maxSteps := 4000000) only [zlc, zif0, zf3, D_PT_scissors, G_PT_k, hC, hR, Classical.not_not, zw_S, zk_iconst, zk_bipush, zk_sipush, zk_ldc, zk_ldc_w, zk_aconst_null, zk_iload_n, zk_iload, zk_aload_n, zk_aload, zk_istore_n, zk_istore, zk_astore_n, zk_astore, zk_iinc, zk_iadd, zk_isub, zk_imul, zk_idiv, zk_iand, zk_ior, zk_ixor, zk_ishl, zk_ishr, zk_iushr, zk_i2l, zk_lcmp, zk_dup, zk_pop, zk_dup_x1, zk_dup2, zk_dup_x2, zk_goto, zk_ifCond, zk_if_icmp, zk_tableswitch, zk_getfield, zk_putfield, zk_iaload, zk_iastore, zk_laload, zk_lastore, zk_arraylength, zk_invokestatic, zk_invokevirtual, zk_invokespecial, zk_new, zk_newarray, zk_ireturn, zk_areturn, zk_return_, zi1_k, zi2_k, zr1_k, zri_k, zrii_k, zril_k, zvr_k, zl2_k, zv1_k, zv2_k, zv3_k, zli_k, zlr_k, zob_k, zai_k, zal_k, zfv_k, zlim_k, zlrm_k, zobm_k, zaim_k, zalm_k, zfvm_k, zgetf_k, zput_k, zcal_k, zrv_n, zrv_s, zswT_n, zswT_c, zgo_k, zcc_eq, zcc_ne, zcc_lt, zcc_ge, zcc_gt, zcc_le, zldj_k, zexc_k, znew_k, zial_k, zct_i, zct_l, zct_r, zct_n, zKK_r, zKK_x, znr_i, znr_0, znr_1, znr_v, znr_a, znr_o, znar_i, znar_r, znar_a, zfit_i, zfit_r, zfit_a, zbc, zlit, eq_self, List.getElem?_cons_zero, List.getElem?_cons_succ, List.set_cons_zero, List.set_cons_succ, List.take_succ_cons, List.take_zero, List.drop_succ_cons, List.drop_zero, List.reverse_cons, List.reverse_nil, List.nil_append, List.cons_append, List.append_nil, List.length_cons, List.length_nil, List.map_cons, List.map_nil, List.sum_cons, List.sum_nil, Option.toList_some, Option.toList_none, Nat.zero_add, Nat.add_zero, Bool.or_false, Bool.false_or, Bool.or_true, Bool.true_or, Bool.not_true, Bool.not_false, ge_iff_le, Fin.isValue, Fin.val_zero, Fin.val_one, Fin.val_two, true_and, and_true, true_implies, false_implies, forall_const, if_true, if_false, ite_true, ite_false, reduceIte, reduceCtorEq, true_or, or_true, and_self, implies_true, not_false_eq_true, not_true_eq_false, Nat.le_refl, Nat.zero_le, and_false, false_and, Nat.reduceAdd, Nat.reduceSub, Nat.reduceLT, Nat.reduceLeDiff, Nat.reduceMul, Nat.reduceEqDiff, Int.reduceAdd, Int.reduceNeg, Int.reduceToNat, Int.reduceLE, Int.reduceNatCast, Int.reduceSub, Int.reduceLT, Int.reduceEq, List.replicate_zero, List.replicate_succ, Int.reduceNatCast', Int32.reduceOfInt, Int32.reduceLT, Int32.reduceLE, Int32.reduceAdd, Int32.reduceSub, Int32.reduceMul, Int32.reduceToInt, Int32.reduceToNatClampNeg]
  simp only [f_PT_scissors, zKp K (fun c => hC cI c r), Classical.not_not] at hT
  simp only [hC, hR] at hT
  exact hT
def f_PT_constant (c : cSt) (x : Int32) : zO × cSt := match c with
  | ((dt, dw, lg, cb), (rm, fx, fy, fw, fh, ct), (N, co, de, sn), (sa, sb, sd, se), (a0, a1, a2, a3, a4, a5, a6), (b0, b1, b2, b3, b4, b5, b6), (e0, e1, e2, e3, e4, e5, e6), an) => (.inl none, ((dt, dw, lg, cb), (rm, fx, fy, fw, fh, ct), (N, co, de, sn), (sa, sb, sd, se), (a0, a1, a2, a3, a4, a5, a6), (b0, b1, b2, b3, b4, b5, b6), (e0, e1, e2, e3, e4, e5, x), an))
def T_PT_constant : ClassId → ClassId → zT := fun cI _ as h K => ∃ (c : cSt) (r : zH) (x : Int32), as = [.ref 0, .int x] ∧ h = hC cI c r ∧ K (f_PT_constant c x).1 (hC cI (f_PT_constant c x).2 r)
set_option maxHeartbeats 4000000 in
set_option maxRecDepth 100000 in
theorem C_PT_constant {l : Launch} (hl : l.stackTraces = false) : zC l y_PT_constant (Cond.code y_PT_constant prog_1_method_7_code 2 none :: wsG) (rmL 7 0 0) zcl false 0 0 T_PT_constant := by
  refine zC_of (G := G_PT) (E := zEn0) (X := zXn) (SL := zSn) (NW := zNn) (CS := zCn) (ctor := false) hl (by decide) rfl rfl rfl G_PT_ok (fun z => by cases z) (fun _ _ z => by cases z) (fun _ _ _ _ z => by cases z) (List.mem_cons_of_mem _ ka_i) (fun _ _ _ z => by cases z) (fun _ z => by cases z) (fun _ _ _ _ _ _ _ _ _ _ _ _ _ _ _ _ _ _ _ _ _ _ _ z => by cases z) ?_
  intro cI cL as h K hT
  obtain ⟨⟨⟨dt, dw, lg, cb⟩, ⟨rm, fx, fy, fw, fh, ct⟩, ⟨N, co, de, sn⟩, ⟨sa, sb, sd, se⟩, ⟨a0, a1, a2, a3, a4, a5, a6⟩, ⟨b0, b1, b2, b3, b4, b5, b6⟩, ⟨e0, e1, e2, e3, e4, e5, e6⟩, an⟩, r, x, rfl, rfl, hT⟩ := hT
  refine ⟨by simp [Value.category], by simp, fun Jd hc => zw_sound (J := fun _ => none) hc (fun _ _ z => by cases z) 10 0 _ _ _ _ _ _ ?_⟩
  simp (maxSteps := 4000000) only [zlc, zif0, zf3, D_PT_constant, G_PT_k, hC, hR, Classical.not_not, zw_S, zk_iconst, zk_bipush, zk_sipush, zk_ldc, zk_ldc_w, zk_aconst_null, zk_iload_n, zk_iload, zk_aload_n, zk_aload, zk_istore_n, zk_istore, zk_astore_n, zk_astore, zk_iinc, zk_iadd, zk_isub, zk_imul, zk_idiv, zk_iand, zk_ior, zk_ixor, zk_ishl, zk_ishr, zk_iushr, zk_i2l, zk_lcmp, zk_dup, zk_pop, zk_dup_x1, zk_dup2, zk_dup_x2, zk_goto, zk_ifCond, zk_if_icmp, zk_tableswitch, zk_getfield, zk_putfield, zk_iaload, zk_iastore, zk_laload, zk_lastore, zk_arraylength, zk_invokestatic, zk_invokevirtual, zk_invokespecial, zk_new, zk_newarray, zk_ireturn, zk_areturn, zk_return_, zi1_k, zi2_k, zr1_k, zri_k, zrii_k, zril_k, zvr_k, zl2_k, zv1_k, zv2_k, zv3_k, zli_k, zlr_k, zob_k, zai_k, zal_k, zfv_k, zlim_k, zlrm_k, zobm_k, zaim_k, zalm_k, zfvm_k, zgetf_k, zput_k, zcal_k, zrv_n, zrv_s, zswT_n, zswT_c, zgo_k, zcc_eq, zcc_ne, zcc_lt, zcc_ge, zcc_gt, zcc_le, zldj_k, zexc_k, znew_k, zial_k, zct_i, zct_l, zct_r, zct_n, zKK_r, zKK_x, znr_i, znr_0, znr_1, znr_v, znr_a, znr_o, znar_i, znar_r, znar_a, zfit_i, zfit_r, zfit_a, zbc, zlit, eq_self, List.getElem?_cons_zero, List.getElem?_cons_succ, List.set_cons_zero, List.set_cons_succ, List.take_succ_cons, List.take_zero, List.drop_succ_cons, List.drop_zero, List.reverse_cons, List.reverse_nil, List.nil_append, List.cons_append, List.append_nil, List.length_cons, List.length_nil, List.map_cons, List.map_nil, List.sum_cons, List.sum_nil, Option.toList_some, Option.toList_none, Nat.zero_add, Nat.add_zero, Bool.or_false, Bool.false_or, Bool.or_true, Bool.true_or, Bool.not_true, Bool.not_false, ge_iff_le, Fin.isValue, Fin.val_zero, Fin.val_one, Fin.val_two, true_and, and_true, true_implies, false_implies, forall_const, if_true, if_false, ite_true, ite_false, reduceIte, reduceCtorEq, true_or, or_true, and_self, implies_true, not_false_eq_true, not_true_eq_false, Nat.le_refl, Nat.zero_le, and_false, false_and, Nat.reduceAdd, Nat.reduceSub, Nat.reduceLT, Nat.reduceLeDiff, Nat.reduceMul, Nat.reduceEqDiff, Int.reduceAdd, Int.reduceNeg, Int.reduceToNat, Int.reduceLE, Int.reduceNatCast, Int.reduceSub, Int.reduceLT, Int.reduceEq, List.replicate_zero, List.replicate_succ, Int.reduceNatCast', Int32.reduceOfInt, Int32.reduceLT, Int32.reduceLE, Int32.reduceAdd, Int32.reduceSub, Int32.reduceMul, Int32.reduceToInt, Int32.reduceToNatClampNeg]
  simp only [f_PT_constant, zKp K (fun c => hC cI c r), Classical.not_not] at hT
  simp only [hC, hR] at hT
  exact hT
def f_PT_depth (c : cSt) (t w : Int32) : zO × cSt := match c with
  | ((dt, dw, lg, cb), (rm, fx, fy, fw, fh, ct), (N, co, de, sn), (sa, sb, sd, se), (a0, a1, a2, a3, a4, a5, a6), (b0, b1, b2, b3, b4, b5, b6), (e0, e1, e2, e3, e4, e5, e6), an) => if ((-1) ≤ t ∧ t ≤ 7) then (.inl none, ((t, w, lg, cb), (rm, fx, fy, fw, fh, ct), (N, co, de, sn), (sa, sb, sd, se), (a0, a1, a2, a3, a4, a5, a6), (b0, b1, b2, b3, b4, b5, b6), (e0, e1, e2, e3, e4, e5, e6), an)) else (.inr 6, ((dt, dw, lg, cb), (rm, fx, fy, fw, fh, ct), (N, co, de, sn), (sa, sb, sd, se), (a0, a1, a2, a3, a4, a5, a6), (b0, b1, b2, b3, b4, b5, b6), (e0, e1, e2, e3, e4, e5, e6), an))
def T_PT_depth : ClassId → ClassId → zT := fun cI _ as h K => ∃ (c : cSt) (r : zH) (t w : Int32), as = [.ref 0, .int t, .int w] ∧ h = hC cI c r ∧ (w = 0 ∨ w = 1) ∧ K (f_PT_depth c t w).1 (hC cI (f_PT_depth c t w).2 r)
def E_PT_depth : ClassId → ClassId → Nat → Nat → Option zEn := fun cI cL kd i => match kd, i with
  | 0, 60 => some (3, none, true, true, 0, 0, T_PT_isWithin cI cL)
  | _, _ => none
theorem E_PT_depth_k : (∀ cI cL, E_PT_depth cI cL 0 60 = some (3, none, true, true, 0, 0, T_PT_isWithin cI cL)) := fun _ _ => rfl
set_option maxHeartbeats 4000000 in
set_option maxRecDepth 100000 in
theorem C_PT_depth {l : Launch} (hl : l.stackTraces = false) : zC l y_PT_depth (Cond.code y_PT_depth prog_1_method_4_code 3 none :: wsG) (rmL 7 1 6) zcl false 1 6 T_PT_depth := by
  refine zC_of (G := G_PT) (E := E_PT_depth) (X := X_PT) (SL := SL_PT) (NW := zNn) (CS := CS_PT) (ctor := false) hl (by decide) rfl rfl rfl G_PT_ok (fun z => by cases z) CS_PT_ok (fun _ _ _ _ z => by cases z) (List.mem_cons_of_mem _ ka_i) (fun i ci ic z => ⟨X_PT_ok i ci ic z, by decide, by decide⟩) SL_PT_ok (by
    intro p e s m args below meth c D A cI cL hx hb hml hown hts hK hA hEX kd idx en hE
    unfold E_PT_depth at hE
    split at hE
    · cases hE; exact zRow_S (C_PT_isWithin hl) rfl (Or.inl ⟨_, _, rfl⟩) hx hb hml hown hts hK hA hEX (hin_c kb_PT_isWithin) (List.mem_cons_of_mem _ kn_PT) (List.mem_cons_of_mem _ ks_PT_isWithin) (Or.inl (List.mem_cons_of_mem _ km_PT_60)) (by decide) (by decide) (by decide) rfl rfl
    · cases hE) ?_
  intro cI cL as h K hT
  obtain ⟨⟨⟨dt, dw, lg, cb⟩, ⟨rm, fx, fy, fw, fh, ct⟩, ⟨N, co, de, sn⟩, ⟨sa, sb, sd, se⟩, ⟨a0, a1, a2, a3, a4, a5, a6⟩, ⟨b0, b1, b2, b3, b4, b5, b6⟩, ⟨e0, e1, e2, e3, e4, e5, e6⟩, an⟩, r, t, w, rfl, rfl, hp, hT⟩ := hT
  refine ⟨by simp [Value.category], by simp, fun Jd hc => zw_sound (J := fun _ => none) hc (fun _ _ z => by cases z) 22 0 _ _ _ _ _ _ ?_⟩
  simp (maxSteps := 4000000) only [zlc, zif0, zf3, D_PT_depth, G_PT_k, E_PT_depth_k, T_PT_isWithin, f_wi_0, znr_wi, CS_PT_k, N_PT_k, hC, hR, Classical.not_not, znb hp, zw_S, zk_iconst, zk_bipush, zk_sipush, zk_ldc, zk_ldc_w, zk_aconst_null, zk_iload_n, zk_iload, zk_aload_n, zk_aload, zk_istore_n, zk_istore, zk_astore_n, zk_astore, zk_iinc, zk_iadd, zk_isub, zk_imul, zk_idiv, zk_iand, zk_ior, zk_ixor, zk_ishl, zk_ishr, zk_iushr, zk_i2l, zk_lcmp, zk_dup, zk_pop, zk_dup_x1, zk_dup2, zk_dup_x2, zk_goto, zk_ifCond, zk_if_icmp, zk_tableswitch, zk_getfield, zk_putfield, zk_iaload, zk_iastore, zk_laload, zk_lastore, zk_arraylength, zk_invokestatic, zk_invokevirtual, zk_invokespecial, zk_new, zk_newarray, zk_ireturn, zk_areturn, zk_return_, zi1_k, zi2_k, zr1_k, zri_k, zrii_k, zril_k, zvr_k, zl2_k, zv1_k, zv2_k, zv3_k, zli_k, zlr_k, zob_k, zai_k, zal_k, zfv_k, zlim_k, zlrm_k, zobm_k, zaim_k, zalm_k, zfvm_k, zgetf_k, zput_k, zcal_k, zrv_n, zrv_s, zswT_n, zswT_c, zgo_k, zcc_eq, zcc_ne, zcc_lt, zcc_ge, zcc_gt, zcc_le, zldj_k, zexc_k, znew_k, zial_k, zct_i, zct_l, zct_r, zct_n, zKK_r, zKK_x, znr_i, znr_0, znr_1, znr_v, znr_a, znr_o, znar_i, znar_r, znar_a, zfit_i, zfit_r, zfit_a, zbc, zlit, eq_self, List.getElem?_cons_zero, List.getElem?_cons_succ, List.set_cons_zero, List.set_cons_succ, List.take_succ_cons, List.take_zero, List.drop_succ_cons, List.drop_zero, List.reverse_cons, List.reverse_nil, List.nil_append, List.cons_append, List.append_nil, List.length_cons, List.length_nil, List.map_cons, List.map_nil, List.sum_cons, List.sum_nil, Option.toList_some, Option.toList_none, Nat.zero_add, Nat.add_zero, Bool.or_false, Bool.false_or, Bool.or_true, Bool.true_or, Bool.not_true, Bool.not_false, ge_iff_le, Fin.isValue, Fin.val_zero, Fin.val_one, Fin.val_two, true_and, and_true, true_implies, false_implies, forall_const, if_true, if_false, ite_true, ite_false, reduceIte, reduceCtorEq, true_or, or_true, and_self, implies_true, not_false_eq_true, not_true_eq_false, Nat.le_refl, Nat.zero_le, and_false, false_and, Nat.reduceAdd, Nat.reduceSub, Nat.reduceLT, Nat.reduceLeDiff, Nat.reduceMul, Nat.reduceEqDiff, Int.reduceAdd, Int.reduceNeg, Int.reduceToNat, Int.reduceLE, Int.reduceNatCast, Int.reduceSub, Int.reduceLT, Int.reduceEq, List.replicate_zero, List.replicate_succ, Int.reduceNatCast', Int32.reduceOfInt, Int32.reduceLT, Int32.reduceLE, Int32.reduceAdd, Int32.reduceSub, Int32.reduceMul, Int32.reduceToInt, Int32.reduceToNatClampNeg]
  simp only [f_PT_depth, zKp K (fun c => hC cI c r), Classical.not_not] at hT
  simp only [hC, hR] at hT
  exact hT
def f_PT_logic (c : cSt) (n : Int32) : zO × cSt := match c with
  | ((dt, dw, lg, cb), (rm, fx, fy, fw, fh, ct), (N, co, de, sn), (sa, sb, sd, se), (a0, a1, a2, a3, a4, a5, a6), (b0, b1, b2, b3, b4, b5, b6), (e0, e1, e2, e3, e4, e5, e6), an) => if ((-1) ≤ n ∧ n ≤ 15) then (.inl none, ((dt, dw, n, cb), (rm, fx, fy, fw, fh, ct), (N, co, de, sn), (sa, sb, sd, se), (a0, a1, a2, a3, a4, a5, a6), (b0, b1, b2, b3, b4, b5, b6), (e0, e1, e2, e3, e4, e5, e6), an)) else (.inr 6, ((dt, dw, lg, cb), (rm, fx, fy, fw, fh, ct), (N, co, de, sn), (sa, sb, sd, se), (a0, a1, a2, a3, a4, a5, a6), (b0, b1, b2, b3, b4, b5, b6), (e0, e1, e2, e3, e4, e5, e6), an))
def T_PT_logic : ClassId → ClassId → zT := fun cI _ as h K => ∃ (c : cSt) (r : zH) (n : Int32), as = [.ref 0, .int n] ∧ h = hC cI c r ∧ K (f_PT_logic c n).1 (hC cI (f_PT_logic c n).2 r)
def E_PT_logic : ClassId → ClassId → Nat → Nat → Option zEn := fun cI cL kd i => match kd, i with
  | 0, 60 => some (3, none, true, true, 0, 0, T_PT_isWithin cI cL)
  | _, _ => none
theorem E_PT_logic_k : (∀ cI cL, E_PT_logic cI cL 0 60 = some (3, none, true, true, 0, 0, T_PT_isWithin cI cL)) := fun _ _ => rfl
set_option maxHeartbeats 4000000 in
set_option maxRecDepth 100000 in
theorem C_PT_logic {l : Launch} (hl : l.stackTraces = false) : zC l y_PT_logic (Cond.code y_PT_logic prog_1_method_8_code 2 none :: wsG) (rmL 7 1 6) zcl false 1 6 T_PT_logic := by
  refine zC_of (G := G_PT) (E := E_PT_logic) (X := X_PT) (SL := SL_PT) (NW := zNn) (CS := CS_PT) (ctor := false) hl (by decide) rfl rfl rfl G_PT_ok (fun z => by cases z) CS_PT_ok (fun _ _ _ _ z => by cases z) (List.mem_cons_of_mem _ ka_i) (fun i ci ic z => ⟨X_PT_ok i ci ic z, by decide, by decide⟩) SL_PT_ok (by
    intro p e s m args below meth c D A cI cL hx hb hml hown hts hK hA hEX kd idx en hE
    unfold E_PT_logic at hE
    split at hE
    · cases hE; exact zRow_S (C_PT_isWithin hl) rfl (Or.inl ⟨_, _, rfl⟩) hx hb hml hown hts hK hA hEX (hin_c kb_PT_isWithin) (List.mem_cons_of_mem _ kn_PT) (List.mem_cons_of_mem _ ks_PT_isWithin) (Or.inl (List.mem_cons_of_mem _ km_PT_60)) (by decide) (by decide) (by decide) rfl rfl
    · cases hE) ?_
  intro cI cL as h K hT
  obtain ⟨⟨⟨dt, dw, lg, cb⟩, ⟨rm, fx, fy, fw, fh, ct⟩, ⟨N, co, de, sn⟩, ⟨sa, sb, sd, se⟩, ⟨a0, a1, a2, a3, a4, a5, a6⟩, ⟨b0, b1, b2, b3, b4, b5, b6⟩, ⟨e0, e1, e2, e3, e4, e5, e6⟩, an⟩, r, n, rfl, rfl, hT⟩ := hT
  refine ⟨by simp [Value.category], by simp, fun Jd hc => zw_sound (J := fun _ => none) hc (fun _ _ z => by cases z) 19 0 _ _ _ _ _ _ ?_⟩
  simp (maxSteps := 4000000) only [zlc, zif0, zf3, D_PT_logic, G_PT_k, E_PT_logic_k, T_PT_isWithin, f_wi_0, znr_wi, CS_PT_k, N_PT_k, hC, hR, Classical.not_not, zw_S, zk_iconst, zk_bipush, zk_sipush, zk_ldc, zk_ldc_w, zk_aconst_null, zk_iload_n, zk_iload, zk_aload_n, zk_aload, zk_istore_n, zk_istore, zk_astore_n, zk_astore, zk_iinc, zk_iadd, zk_isub, zk_imul, zk_idiv, zk_iand, zk_ior, zk_ixor, zk_ishl, zk_ishr, zk_iushr, zk_i2l, zk_lcmp, zk_dup, zk_pop, zk_dup_x1, zk_dup2, zk_dup_x2, zk_goto, zk_ifCond, zk_if_icmp, zk_tableswitch, zk_getfield, zk_putfield, zk_iaload, zk_iastore, zk_laload, zk_lastore, zk_arraylength, zk_invokestatic, zk_invokevirtual, zk_invokespecial, zk_new, zk_newarray, zk_ireturn, zk_areturn, zk_return_, zi1_k, zi2_k, zr1_k, zri_k, zrii_k, zril_k, zvr_k, zl2_k, zv1_k, zv2_k, zv3_k, zli_k, zlr_k, zob_k, zai_k, zal_k, zfv_k, zlim_k, zlrm_k, zobm_k, zaim_k, zalm_k, zfvm_k, zgetf_k, zput_k, zcal_k, zrv_n, zrv_s, zswT_n, zswT_c, zgo_k, zcc_eq, zcc_ne, zcc_lt, zcc_ge, zcc_gt, zcc_le, zldj_k, zexc_k, znew_k, zial_k, zct_i, zct_l, zct_r, zct_n, zKK_r, zKK_x, znr_i, znr_0, znr_1, znr_v, znr_a, znr_o, znar_i, znar_r, znar_a, zfit_i, zfit_r, zfit_a, zbc, zlit, eq_self, List.getElem?_cons_zero, List.getElem?_cons_succ, List.set_cons_zero, List.set_cons_succ, List.take_succ_cons, List.take_zero, List.drop_succ_cons, List.drop_zero, List.reverse_cons, List.reverse_nil, List.nil_append, List.cons_append, List.append_nil, List.length_cons, List.length_nil, List.map_cons, List.map_nil, List.sum_cons, List.sum_nil, Option.toList_some, Option.toList_none, Nat.zero_add, Nat.add_zero, Bool.or_false, Bool.false_or, Bool.or_true, Bool.true_or, Bool.not_true, Bool.not_false, ge_iff_le, Fin.isValue, Fin.val_zero, Fin.val_one, Fin.val_two, true_and, and_true, true_implies, false_implies, forall_const, if_true, if_false, ite_true, ite_false, reduceIte, reduceCtorEq, true_or, or_true, and_self, implies_true, not_false_eq_true, not_true_eq_false, Nat.le_refl, Nat.zero_le, and_false, false_and, Nat.reduceAdd, Nat.reduceSub, Nat.reduceLT, Nat.reduceLeDiff, Nat.reduceMul, Nat.reduceEqDiff, Int.reduceAdd, Int.reduceNeg, Int.reduceToNat, Int.reduceLE, Int.reduceNatCast, Int.reduceSub, Int.reduceLT, Int.reduceEq, List.replicate_zero, List.replicate_succ, Int.reduceNatCast', Int32.reduceOfInt, Int32.reduceLT, Int32.reduceLE, Int32.reduceAdd, Int32.reduceSub, Int32.reduceMul, Int32.reduceToInt, Int32.reduceToNatClampNeg]
  simp only [f_PT_logic, zKp K (fun c => hC cI c r), Classical.not_not] at hT
  simp only [hC, hR] at hT
  exact hT
def f_PT_mask (c : cSt) (n : Int32) : zO × cSt := match c with
  | ((dt, dw, lg, cb), (rm, fx, fy, fw, fh, ct), (N, co, de, sn), (sa, sb, sd, se), (a0, a1, a2, a3, a4, a5, a6), (b0, b1, b2, b3, b4, b5, b6), (e0, e1, e2, e3, e4, e5, e6), an) => if (0 ≤ n ∧ n ≤ 15) then (.inl none, ((dt, dw, lg, f_bits n), (rm, fx, fy, fw, fh, ct), (N, co, de, sn), (sa, sb, sd, se), (a0, a1, a2, a3, a4, a5, a6), (b0, b1, b2, b3, b4, b5, b6), (e0, e1, e2, e3, e4, e5, e6), an)) else (.inr 6, ((dt, dw, lg, cb), (rm, fx, fy, fw, fh, ct), (N, co, de, sn), (sa, sb, sd, se), (a0, a1, a2, a3, a4, a5, a6), (b0, b1, b2, b3, b4, b5, b6), (e0, e1, e2, e3, e4, e5, e6), an))
def T_PT_mask : ClassId → ClassId → zT := fun cI _ as h K => ∃ (c : cSt) (r : zH) (n : Int32), as = [.ref 0, .int n] ∧ h = hC cI c r ∧ K (f_PT_mask c n).1 (hC cI (f_PT_mask c n).2 r)
def E_PT_mask : ClassId → ClassId → Nat → Nat → Option zEn := fun cI cL kd i => match kd, i with
  | 0, 60 => some (3, none, true, true, 0, 0, T_PT_isWithin cI cL)
  | 0, 167 => some (1, none, true, true, 0, 0, T_CO_bitsOf cI cL)
  | _, _ => none
theorem E_PT_mask_k : (∀ cI cL, E_PT_mask cI cL 0 60 = some (3, none, true, true, 0, 0, T_PT_isWithin cI cL)) ∧ (∀ cI cL, E_PT_mask cI cL 0 167 = some (1, none, true, true, 0, 0, T_CO_bitsOf cI cL)) := ⟨fun _ _ => rfl, fun _ _ => rfl⟩
set_option maxHeartbeats 4000000 in
set_option maxRecDepth 100000 in
theorem C_PT_mask {l : Launch} (hl : l.stackTraces = false) : zC l y_PT_mask (Cond.code y_PT_mask prog_1_method_9_code 2 none :: wsG) (rmL 7 1 6) zcl false 1 6 T_PT_mask := by
  refine zC_of (G := G_PT) (E := E_PT_mask) (X := X_PT) (SL := SL_PT) (NW := zNn) (CS := CS_PT) (ctor := false) hl (by decide) rfl rfl rfl G_PT_ok (fun z => by cases z) CS_PT_ok (fun _ _ _ _ z => by cases z) (List.mem_cons_of_mem _ ka_i) (fun i ci ic z => ⟨X_PT_ok i ci ic z, by decide, by decide⟩) SL_PT_ok (by
    intro p e s m args below meth c D A cI cL hx hb hml hown hts hK hA hEX kd idx en hE
    unfold E_PT_mask at hE
    split at hE
    · cases hE; exact zRow_S (C_PT_isWithin hl) rfl (Or.inl ⟨_, _, rfl⟩) hx hb hml hown hts hK hA hEX (hin_c kb_PT_isWithin) (List.mem_cons_of_mem _ kn_PT) (List.mem_cons_of_mem _ ks_PT_isWithin) (Or.inl (List.mem_cons_of_mem _ km_PT_60)) (by decide) (by decide) (by decide) rfl rfl
    · cases hE; exact zRow_S (C_CO_bitsOf hl) rfl (Or.inl ⟨_, _, rfl⟩) hx hb hml hown hts hK hA hEX (hin_c kb_CO_bitsOf) (List.mem_cons_of_mem _ kn_CO) (List.mem_cons_of_mem _ ks_CO_bitsOf) (Or.inr ⟨_, List.mem_cons_of_mem _ km_PT_167⟩) (by decide) (by decide) (by decide) rfl rfl
    · cases hE) ?_
  intro cI cL as h K hT
  obtain ⟨⟨⟨dt, dw, lg, cb⟩, ⟨rm, fx, fy, fw, fh, ct⟩, ⟨N, co, de, sn⟩, ⟨sa, sb, sd, se⟩, ⟨a0, a1, a2, a3, a4, a5, a6⟩, ⟨b0, b1, b2, b3, b4, b5, b6⟩, ⟨e0, e1, e2, e3, e4, e5, e6⟩, an⟩, r, n, rfl, rfl, hT⟩ := hT
  refine ⟨by simp [Value.category], by simp, fun Jd hc => zw_sound (J := fun _ => none) hc (fun _ _ z => by cases z) 20 0 _ _ _ _ _ _ ?_⟩
  simp (maxSteps := 4000000) only [zlc, zif0, zf3, D_PT_mask, G_PT_k, E_PT_mask_k, T_PT_isWithin, f_wi_0, znr_wi, T_CO_bitsOf, CS_PT_k, N_PT_k, hC, hR, Classical.not_not, zw_S, zk_iconst, zk_bipush, zk_sipush, zk_ldc, zk_ldc_w, zk_aconst_null, zk_iload_n, zk_iload, zk_aload_n, zk_aload, zk_istore_n, zk_istore, zk_astore_n, zk_astore, zk_iinc, zk_iadd, zk_isub, zk_imul, zk_idiv, zk_iand, zk_ior, zk_ixor, zk_ishl, zk_ishr, zk_iushr, zk_i2l, zk_lcmp, zk_dup, zk_pop, zk_dup_x1, zk_dup2, zk_dup_x2, zk_goto, zk_ifCond, zk_if_icmp, zk_tableswitch, zk_getfield, zk_putfield, zk_iaload, zk_iastore, zk_laload, zk_lastore, zk_arraylength, zk_invokestatic, zk_invokevirtual, zk_invokespecial, zk_new, zk_newarray, zk_ireturn, zk_areturn, zk_return_, zi1_k, zi2_k, zr1_k, zri_k, zrii_k, zril_k, zvr_k, zl2_k, zv1_k, zv2_k, zv3_k, zli_k, zlr_k, zob_k, zai_k, zal_k, zfv_k, zlim_k, zlrm_k, zobm_k, zaim_k, zalm_k, zfvm_k, zgetf_k, zput_k, zcal_k, zrv_n, zrv_s, zswT_n, zswT_c, zgo_k, zcc_eq, zcc_ne, zcc_lt, zcc_ge, zcc_gt, zcc_le, zldj_k, zexc_k, znew_k, zial_k, zct_i, zct_l, zct_r, zct_n, zKK_r, zKK_x, znr_i, znr_0, znr_1, znr_v, znr_a, znr_o, znar_i, znar_r, znar_a, zfit_i, zfit_r, zfit_a, zbc, zlit, eq_self, List.getElem?_cons_zero, List.getElem?_cons_succ, List.set_cons_zero, List.set_cons_succ, List.take_succ_cons, List.take_zero, List.drop_succ_cons, List.drop_zero, List.reverse_cons, List.reverse_nil, List.nil_append, List.cons_append, List.append_nil, List.length_cons, List.length_nil, List.map_cons, List.map_nil, List.sum_cons, List.sum_nil, Option.toList_some, Option.toList_none, Nat.zero_add, Nat.add_zero, Bool.or_false, Bool.false_or, Bool.or_true, Bool.true_or, Bool.not_true, Bool.not_false, ge_iff_le, Fin.isValue, Fin.val_zero, Fin.val_one, Fin.val_two, true_and, and_true, true_implies, false_implies, forall_const, if_true, if_false, ite_true, ite_false, reduceIte, reduceCtorEq, true_or, or_true, and_self, implies_true, not_false_eq_true, not_true_eq_false, Nat.le_refl, Nat.zero_le, and_false, false_and, Nat.reduceAdd, Nat.reduceSub, Nat.reduceLT, Nat.reduceLeDiff, Nat.reduceMul, Nat.reduceEqDiff, Int.reduceAdd, Int.reduceNeg, Int.reduceToNat, Int.reduceLE, Int.reduceNatCast, Int.reduceSub, Int.reduceLT, Int.reduceEq, List.replicate_zero, List.replicate_succ, Int.reduceNatCast', Int32.reduceOfInt, Int32.reduceLT, Int32.reduceLE, Int32.reduceAdd, Int32.reduceSub, Int32.reduceMul, Int32.reduceToInt, Int32.reduceToNatClampNeg]
  simp only [f_PT_mask, zKp K (fun c => hC cI c r), Classical.not_not] at hT
  simp only [hC, hR] at hT
  exact hT
theorem vp_le {x : Int32} {n : Nat} (M : Int32) (h1 : 0 ≤ x) (h2 : x ≤ M) (hM : M.toInt < n) : vp_in x n := by
  rw [vp_in_iff]
  have a := Int32.le_iff_toInt_le.mp h1
  have b := Int32.le_iff_toInt_le.mp h2
  rw [Int32.toInt_zero] at a
  omega
def f_PT_drawn (c : cSt) (n : Int32) : zO × cSt := match c with
  | ((dt, dw, lg, cb), (rm, fx, fy, fw, fh, ct), (N, co, de, sn), (sa, sb, sd, se), (a0, a1, a2, a3, a4, a5, a6), (b0, b1, b2, b3, b4, b5, b6), (e0, e1, e2, e3, e4, e5, e6), an) => if (0 ≤ n ∧ n ≤ 3) then (.inl (some (.int (an n.toNatClampNeg))), ((dt, dw, lg, cb), (rm, fx, fy, fw, fh, ct), (N, co, de, sn), (sa, sb, sd, se), (a0, a1, a2, a3, a4, a5, a6), (b0, b1, b2, b3, b4, b5, b6), (e0, e1, e2, e3, e4, e5, e6), an)) else (.inr 6, ((dt, dw, lg, cb), (rm, fx, fy, fw, fh, ct), (N, co, de, sn), (sa, sb, sd, se), (a0, a1, a2, a3, a4, a5, a6), (b0, b1, b2, b3, b4, b5, b6), (e0, e1, e2, e3, e4, e5, e6), an))
def T_PT_drawn : ClassId → ClassId → zT := fun cI _ as h K => ∃ (c : cSt) (r : zH) (n : Int32), as = [.ref 0, .int n] ∧ h = hC cI c r ∧ K (f_PT_drawn c n).1 (hC cI (f_PT_drawn c n).2 r)
def E_PT_drawn : ClassId → ClassId → Nat → Nat → Option zEn := fun cI cL kd i => match kd, i with
  | 0, 60 => some (3, none, true, true, 0, 0, T_PT_isWithin cI cL)
  | _, _ => none
theorem E_PT_drawn_k : (∀ cI cL, E_PT_drawn cI cL 0 60 = some (3, none, true, true, 0, 0, T_PT_isWithin cI cL)) := fun _ _ => rfl
set_option maxHeartbeats 4000000 in
set_option maxRecDepth 100000 in
theorem C_PT_drawn {l : Launch} (hl : l.stackTraces = false) : zC l y_PT_drawn (Cond.code y_PT_drawn prog_1_method_13_code 2 (some .int) :: wsG) (rmL 7 1 6) zcl true 1 6 T_PT_drawn := by
  refine zC_of (G := G_PT) (E := E_PT_drawn) (X := X_PT) (SL := SL_PT) (NW := zNn) (CS := CS_PT) (ctor := false) hl (by decide) rfl rfl rfl G_PT_ok (fun z => by cases z) CS_PT_ok (fun _ _ _ _ z => by cases z) (List.mem_cons_of_mem _ ka_i) (fun i ci ic z => ⟨X_PT_ok i ci ic z, by decide, by decide⟩) SL_PT_ok (by
    intro p e s m args below meth c D A cI cL hx hb hml hown hts hK hA hEX kd idx en hE
    unfold E_PT_drawn at hE
    split at hE
    · cases hE; exact zRow_S (C_PT_isWithin hl) rfl (Or.inl ⟨_, _, rfl⟩) hx hb hml hown hts hK hA hEX (hin_c kb_PT_isWithin) (List.mem_cons_of_mem _ kn_PT) (List.mem_cons_of_mem _ ks_PT_isWithin) (Or.inl (List.mem_cons_of_mem _ km_PT_60)) (by decide) (by decide) (by decide) rfl rfl
    · cases hE) ?_
  intro cI cL as h K hT
  obtain ⟨⟨⟨dt, dw, lg, cb⟩, ⟨rm, fx, fy, fw, fh, ct⟩, ⟨N, co, de, sn⟩, ⟨sa, sb, sd, se⟩, ⟨a0, a1, a2, a3, a4, a5, a6⟩, ⟨b0, b1, b2, b3, b4, b5, b6⟩, ⟨e0, e1, e2, e3, e4, e5, e6⟩, an⟩, r, n, rfl, rfl, hT⟩ := hT
  refine ⟨by simp [Value.category], by simp, fun Jd hc => zw_sound (J := fun _ => none) hc (fun _ _ z => by cases z) 20 0 _ _ _ _ _ _ ?_⟩
  simp (maxSteps := 4000000) only [zlc, zif0, zf3, D_PT_drawn, G_PT_k, E_PT_drawn_k, T_PT_isWithin, f_wi_0, znr_wi, CS_PT_k, N_PT_k, hC, hR, Classical.not_not, zw_S, zk_iconst, zk_bipush, zk_sipush, zk_ldc, zk_ldc_w, zk_aconst_null, zk_iload_n, zk_iload, zk_aload_n, zk_aload, zk_istore_n, zk_istore, zk_astore_n, zk_astore, zk_iinc, zk_iadd, zk_isub, zk_imul, zk_idiv, zk_iand, zk_ior, zk_ixor, zk_ishl, zk_ishr, zk_iushr, zk_i2l, zk_lcmp, zk_dup, zk_pop, zk_dup_x1, zk_dup2, zk_dup_x2, zk_goto, zk_ifCond, zk_if_icmp, zk_tableswitch, zk_getfield, zk_putfield, zk_iaload, zk_iastore, zk_laload, zk_lastore, zk_arraylength, zk_invokestatic, zk_invokevirtual, zk_invokespecial, zk_new, zk_newarray, zk_ireturn, zk_areturn, zk_return_, zi1_k, zi2_k, zr1_k, zri_k, zrii_k, zril_k, zvr_k, zl2_k, zv1_k, zv2_k, zv3_k, zli_k, zlr_k, zob_k, zai_k, zal_k, zfv_k, zlim_k, zlrm_k, zobm_k, zaim_k, zalm_k, zfvm_k, zgetf_k, zput_k, zcal_k, zrv_n, zrv_s, zswT_n, zswT_c, zgo_k, zcc_eq, zcc_ne, zcc_lt, zcc_ge, zcc_gt, zcc_le, zldj_k, zexc_k, znew_k, zial_k, zct_i, zct_l, zct_r, zct_n, zKK_r, zKK_x, znr_i, znr_0, znr_1, znr_v, znr_a, znr_o, znar_i, znar_r, znar_a, zfit_i, zfit_r, zfit_a, zbc, zlit, eq_self, List.getElem?_cons_zero, List.getElem?_cons_succ, List.set_cons_zero, List.set_cons_succ, List.take_succ_cons, List.take_zero, List.drop_succ_cons, List.drop_zero, List.reverse_cons, List.reverse_nil, List.nil_append, List.cons_append, List.append_nil, List.length_cons, List.length_nil, List.map_cons, List.map_nil, List.sum_cons, List.sum_nil, Option.toList_some, Option.toList_none, Nat.zero_add, Nat.add_zero, Bool.or_false, Bool.false_or, Bool.or_true, Bool.true_or, Bool.not_true, Bool.not_false, ge_iff_le, Fin.isValue, Fin.val_zero, Fin.val_one, Fin.val_two, true_and, and_true, true_implies, false_implies, forall_const, if_true, if_false, ite_true, ite_false, reduceIte, reduceCtorEq, true_or, or_true, and_self, implies_true, not_false_eq_true, not_true_eq_false, Nat.le_refl, Nat.zero_le, and_false, false_and, Nat.reduceAdd, Nat.reduceSub, Nat.reduceLT, Nat.reduceLeDiff, Nat.reduceMul, Nat.reduceEqDiff, Int.reduceAdd, Int.reduceNeg, Int.reduceToNat, Int.reduceLE, Int.reduceNatCast, Int.reduceSub, Int.reduceLT, Int.reduceEq, List.replicate_zero, List.replicate_succ, Int.reduceNatCast', Int32.reduceOfInt, Int32.reduceLT, Int32.reduceLE, Int32.reduceAdd, Int32.reduceSub, Int32.reduceMul, Int32.reduceToInt, Int32.reduceToNatClampNeg]
  simp only [f_PT_drawn, zKp K (fun c => hC cI c r), Classical.not_not] at hT
  simp only [hC, hR] at hT
  exact ⟨fun z => ⟨vp_le 3 z.1 z.2 (by decide), hT.1 z⟩, hT.2⟩
def f_PT_blend (c : cSt) (s p u v e g : Int32) : zO × cSt := match c with
  | ((dt, dw, lg, cb), (rm, fx, fy, fw, fh, ct), (N, co, de, sn), (sa, sb, sd, se), (a0, a1, a2, a3, a4, a5, a6), (b0, b1, b2, b3, b4, b5, b6), (e0, e1, e2, e3, e4, e5, e6), an) => if ¬ e = -1 then (if ¬ (0 ≤ s ∧ s ≤ 14) then (.inr 6, ((dt, dw, lg, cb), (rm, fx, fy, fw, fh, ct), (N, co, de, sn), (sa, sb, sd, se), (a0, a1, a2, a3, a4, a5, a6), (b0, b1, b2, b3, b4, b5, b6), (e0, e1, e2, e3, e4, e5, e6), an)) else if ¬ (0 ≤ p ∧ p ≤ 14) then (.inr 6, ((dt, dw, lg, cb), (rm, fx, fy, fw, fh, ct), (N, co, de, sn), (sa, sb, sd, se), (a0, a1, a2, a3, a4, a5, a6), (b0, b1, b2, b3, b4, b5, b6), (e0, e1, e2, e3, e4, e5, e6), an)) else if ¬ (0 ≤ u ∧ u ≤ 14) then (.inr 6, ((dt, dw, lg, cb), (rm, fx, fy, fw, fh, ct), (N, co, de, sn), (sa, sb, sd, se), (a0, a1, a2, a3, a4, a5, a6), (b0, b1, b2, b3, b4, b5, b6), (e0, e1, e2, e3, e4, e5, e6), an)) else if (0 ≤ v ∧ v ≤ 14) then (if ¬ (0 ≤ e ∧ e ≤ 4) then (.inr 6, ((dt, dw, lg, cb), (rm, fx, fy, fw, fh, ct), (N, co, de, sn), (sa, sb, sd, se), (a0, a1, a2, a3, a4, a5, a6), (b0, b1, b2, b3, b4, b5, b6), (e0, e1, e2, e3, e4, e5, e6), an)) else if (0 ≤ g ∧ g ≤ 4) then (.inl none, ((dt, dw, lg, cb), (rm, fx, fy, fw, fh, ct), (N, co, de, sn), (sa, sb, sd, se), (a0, a1, a2, a3, a4, a5, a6), (b0, b1, b2, b3, b4, b5, b6), (s, p, u, v, e, g, e6), an)) else (.inr 6, ((dt, dw, lg, cb), (rm, fx, fy, fw, fh, ct), (N, co, de, sn), (sa, sb, sd, se), (a0, a1, a2, a3, a4, a5, a6), (b0, b1, b2, b3, b4, b5, b6), (e0, e1, e2, e3, e4, e5, e6), an))) else (.inr 6, ((dt, dw, lg, cb), (rm, fx, fy, fw, fh, ct), (N, co, de, sn), (sa, sb, sd, se), (a0, a1, a2, a3, a4, a5, a6), (b0, b1, b2, b3, b4, b5, b6), (e0, e1, e2, e3, e4, e5, e6), an))) else (.inl none, ((dt, dw, lg, cb), (rm, fx, fy, fw, fh, ct), (N, co, de, sn), (sa, sb, sd, se), (a0, a1, a2, a3, a4, a5, a6), (b0, b1, b2, b3, b4, b5, b6), (e0, e1, e2, e3, (-1), e5, e6), an))
def T_PT_blend : ClassId → ClassId → zT := fun cI _ as h K => ∃ (c : cSt) (r : zH) (s p u v e g : Int32), as = [.ref 0, .int s, .int p, .int u, .int v, .int e, .int g] ∧ h = hC cI c r ∧ K (f_PT_blend c s p u v e g).1 (hC cI (f_PT_blend c s p u v e g).2 r)
def E_PT_blend : ClassId → ClassId → Nat → Nat → Option zEn := fun cI cL kd i => match kd, i with
  | 0, 138 => some (1, none, true, true, 0, 0, T_PT_isFactor cI cL)
  | 0, 60 => some (3, none, true, true, 0, 0, T_PT_isWithin cI cL)
  | _, _ => none
theorem E_PT_blend_k : (∀ cI cL, E_PT_blend cI cL 0 138 = some (1, none, true, true, 0, 0, T_PT_isFactor cI cL)) ∧ (∀ cI cL, E_PT_blend cI cL 0 60 = some (3, none, true, true, 0, 0, T_PT_isWithin cI cL)) := ⟨fun _ _ => rfl, fun _ _ => rfl⟩
set_option maxHeartbeats 4000000 in
set_option maxRecDepth 100000 in
theorem C_PT_blend {l : Launch} (hl : l.stackTraces = false) : zC l y_PT_blend (Cond.code y_PT_blend prog_1_method_6_code 7 none :: wsG) (rmL 7 1 6) zcl false 1 6 T_PT_blend := by
  refine zC_of (G := G_PT) (E := E_PT_blend) (X := X_PT) (SL := SL_PT) (NW := zNn) (CS := CS_PT) (ctor := false) hl (by decide) rfl rfl rfl G_PT_ok (fun z => by cases z) CS_PT_ok (fun _ _ _ _ z => by cases z) (List.mem_cons_of_mem _ ka_i) (fun i ci ic z => ⟨X_PT_ok i ci ic z, by decide, by decide⟩) SL_PT_ok (by
    intro p e s m args below meth c D A cI cL hx hb hml hown hts hK hA hEX kd idx en hE
    unfold E_PT_blend at hE
    split at hE
    · cases hE; exact zRow_S (C_PT_isFactor hl) rfl (Or.inl ⟨_, _, rfl⟩) hx hb hml hown hts hK hA hEX (hin_c kb_PT_isFactor) (List.mem_cons_of_mem _ kn_PT) (List.mem_cons_of_mem _ ks_PT_isFactor) (Or.inl (List.mem_cons_of_mem _ km_PT_138)) (by decide) (by decide) (by decide) rfl rfl
    · cases hE; exact zRow_S (C_PT_isWithin hl) rfl (Or.inl ⟨_, _, rfl⟩) hx hb hml hown hts hK hA hEX (hin_c kb_PT_isWithin) (List.mem_cons_of_mem _ kn_PT) (List.mem_cons_of_mem _ ks_PT_isWithin) (Or.inl (List.mem_cons_of_mem _ km_PT_60)) (by decide) (by decide) (by decide) rfl rfl
    · cases hE) ?_
  intro cI cL as h K hT
  obtain ⟨⟨⟨dt, dw, lg, cb⟩, ⟨rm, fx, fy, fw, fh, ct⟩, ⟨N, co, de, sn⟩, ⟨sa, sb, sd, se⟩, ⟨a0, a1, a2, a3, a4, a5, a6⟩, ⟨b0, b1, b2, b3, b4, b5, b6⟩, ⟨e0, e1, e2, e3, e4, e5, e6⟩, an⟩, r, s, p, u, v, e, g, rfl, rfl, hT⟩ := hT
  refine ⟨by simp [Value.category], by simp, fun Jd hc => zw_sound (J := fun _ => none) hc (fun _ _ z => by cases z) 70 0 _ _ _ _ _ _ ?_⟩
  simp (maxSteps := 4000000) only [zlc, zif0, zf3, D_PT_blend_0, D_PT_blend_1, G_PT_k, E_PT_blend_k, T_PT_isFactor, f_wi_0, znr_wi, T_PT_isWithin, CS_PT_k, N_PT_k, hC, hR, Classical.not_not, zw_S, zk_iconst, zk_bipush, zk_sipush, zk_ldc, zk_ldc_w, zk_aconst_null, zk_iload_n, zk_iload, zk_aload_n, zk_aload, zk_istore_n, zk_istore, zk_astore_n, zk_astore, zk_iinc, zk_iadd, zk_isub, zk_imul, zk_idiv, zk_iand, zk_ior, zk_ixor, zk_ishl, zk_ishr, zk_iushr, zk_i2l, zk_lcmp, zk_dup, zk_pop, zk_dup_x1, zk_dup2, zk_dup_x2, zk_goto, zk_ifCond, zk_if_icmp, zk_tableswitch, zk_getfield, zk_putfield, zk_iaload, zk_iastore, zk_laload, zk_lastore, zk_arraylength, zk_invokestatic, zk_invokevirtual, zk_invokespecial, zk_new, zk_newarray, zk_ireturn, zk_areturn, zk_return_, zi1_k, zi2_k, zr1_k, zri_k, zrii_k, zril_k, zvr_k, zl2_k, zv1_k, zv2_k, zv3_k, zli_k, zlr_k, zob_k, zai_k, zal_k, zfv_k, zlim_k, zlrm_k, zobm_k, zaim_k, zalm_k, zfvm_k, zgetf_k, zput_k, zcal_k, zrv_n, zrv_s, zswT_n, zswT_c, zgo_k, zcc_eq, zcc_ne, zcc_lt, zcc_ge, zcc_gt, zcc_le, zldj_k, zexc_k, znew_k, zial_k, zct_i, zct_l, zct_r, zct_n, zKK_r, zKK_x, znr_i, znr_0, znr_1, znr_v, znr_a, znr_o, znar_i, znar_r, znar_a, zfit_i, zfit_r, zfit_a, zbc, zlit, eq_self, List.getElem?_cons_zero, List.getElem?_cons_succ, List.set_cons_zero, List.set_cons_succ, List.take_succ_cons, List.take_zero, List.drop_succ_cons, List.drop_zero, List.reverse_cons, List.reverse_nil, List.nil_append, List.cons_append, List.append_nil, List.length_cons, List.length_nil, List.map_cons, List.map_nil, List.sum_cons, List.sum_nil, Option.toList_some, Option.toList_none, Nat.zero_add, Nat.add_zero, Bool.or_false, Bool.false_or, Bool.or_true, Bool.true_or, Bool.not_true, Bool.not_false, ge_iff_le, Fin.isValue, Fin.val_zero, Fin.val_one, Fin.val_two, true_and, and_true, true_implies, false_implies, forall_const, if_true, if_false, ite_true, ite_false, reduceIte, reduceCtorEq, true_or, or_true, and_self, implies_true, not_false_eq_true, not_true_eq_false, Nat.le_refl, Nat.zero_le, and_false, false_and, Nat.reduceAdd, Nat.reduceSub, Nat.reduceLT, Nat.reduceLeDiff, Nat.reduceMul, Nat.reduceEqDiff, Int.reduceAdd, Int.reduceNeg, Int.reduceToNat, Int.reduceLE, Int.reduceNatCast, Int.reduceSub, Int.reduceLT, Int.reduceEq, List.replicate_zero, List.replicate_succ, Int.reduceNatCast', Int32.reduceOfInt, Int32.reduceLT, Int32.reduceLE, Int32.reduceAdd, Int32.reduceSub, Int32.reduceMul, Int32.reduceToInt, Int32.reduceToNatClampNeg]
  simp only [f_PT_blend, zKp K (fun c => hC cI c r), Classical.not_not] at hT
  simp only [hC, hR] at hT
  exact hT
def f_PT_stencil (c : cSt) (sd0 t v m w f g k : Int32) : zO × cSt := match c with
  | ((dt, dw, lg, cb), (rm, fx, fy, fw, fh, ct), (N, co, de, sn), (sa, sb, sd, se), (a0, a1, a2, a3, a4, a5, a6), (b0, b1, b2, b3, b4, b5, b6), (e0, e1, e2, e3, e4, e5, e6), an) => if (0 ≤ sd0 ∧ sd0 ≤ 1) then (if sd0 = 0 then (if ¬ t = -1 then (if (0 ≤ t ∧ t ≤ 7) then (if ¬ (0 ≤ v ∧ v ≤ 255) then (.inr 6, ((dt, dw, lg, cb), (rm, fx, fy, fw, fh, ct), (N, co, de, sn), (sa, sb, sd, se), (a0, a1, a2, a3, a4, a5, a6), (b0, b1, b2, b3, b4, b5, b6), (e0, e1, e2, e3, e4, e5, e6), an)) else if ¬ (0 ≤ m ∧ m ≤ 255) then (.inr 6, ((dt, dw, lg, cb), (rm, fx, fy, fw, fh, ct), (N, co, de, sn), (sa, sb, sd, se), (a0, a1, a2, a3, a4, a5, a6), (b0, b1, b2, b3, b4, b5, b6), (e0, e1, e2, e3, e4, e5, e6), an)) else if (0 ≤ w ∧ w ≤ 255) then (if ¬ (0 ≤ f ∧ f ≤ 7) then (.inr 6, ((dt, dw, lg, cb), (rm, fx, fy, fw, fh, ct), (N, co, de, sn), (sa, sb, sd, se), (a0, a1, a2, a3, a4, a5, a6), (b0, b1, b2, b3, b4, b5, b6), (e0, e1, e2, e3, e4, e5, e6), an)) else if ¬ (0 ≤ g ∧ g ≤ 7) then (.inr 6, ((dt, dw, lg, cb), (rm, fx, fy, fw, fh, ct), (N, co, de, sn), (sa, sb, sd, se), (a0, a1, a2, a3, a4, a5, a6), (b0, b1, b2, b3, b4, b5, b6), (e0, e1, e2, e3, e4, e5, e6), an)) else if (0 ≤ k ∧ k ≤ 7) then (.inl none, ((dt, dw, lg, cb), (rm, fx, fy, fw, fh, ct), (N, co, de, sn), (sa, sb, sd, se), (t, v, m, w, f, g, k), (b0, b1, b2, b3, b4, b5, b6), (e0, e1, e2, e3, e4, e5, e6), an)) else (.inr 6, ((dt, dw, lg, cb), (rm, fx, fy, fw, fh, ct), (N, co, de, sn), (sa, sb, sd, se), (a0, a1, a2, a3, a4, a5, a6), (b0, b1, b2, b3, b4, b5, b6), (e0, e1, e2, e3, e4, e5, e6), an))) else (.inr 6, ((dt, dw, lg, cb), (rm, fx, fy, fw, fh, ct), (N, co, de, sn), (sa, sb, sd, se), (a0, a1, a2, a3, a4, a5, a6), (b0, b1, b2, b3, b4, b5, b6), (e0, e1, e2, e3, e4, e5, e6), an))) else (.inr 6, ((dt, dw, lg, cb), (rm, fx, fy, fw, fh, ct), (N, co, de, sn), (sa, sb, sd, se), (a0, a1, a2, a3, a4, a5, a6), (b0, b1, b2, b3, b4, b5, b6), (e0, e1, e2, e3, e4, e5, e6), an))) else (.inl none, ((dt, dw, lg, cb), (rm, fx, fy, fw, fh, ct), (N, co, de, sn), (sa, sb, sd, se), ((-1), a1, a2, a3, a4, a5, a6), (b0, b1, b2, b3, b4, b5, b6), (e0, e1, e2, e3, e4, e5, e6), an))) else (if ¬ t = -1 then (if (0 ≤ t ∧ t ≤ 7) then (if ¬ (0 ≤ v ∧ v ≤ 255) then (.inr 6, ((dt, dw, lg, cb), (rm, fx, fy, fw, fh, ct), (N, co, de, sn), (sa, sb, sd, se), (a0, a1, a2, a3, a4, a5, a6), (b0, b1, b2, b3, b4, b5, b6), (e0, e1, e2, e3, e4, e5, e6), an)) else if ¬ (0 ≤ m ∧ m ≤ 255) then (.inr 6, ((dt, dw, lg, cb), (rm, fx, fy, fw, fh, ct), (N, co, de, sn), (sa, sb, sd, se), (a0, a1, a2, a3, a4, a5, a6), (b0, b1, b2, b3, b4, b5, b6), (e0, e1, e2, e3, e4, e5, e6), an)) else if (0 ≤ w ∧ w ≤ 255) then (if ¬ (0 ≤ f ∧ f ≤ 7) then (.inr 6, ((dt, dw, lg, cb), (rm, fx, fy, fw, fh, ct), (N, co, de, sn), (sa, sb, sd, se), (a0, a1, a2, a3, a4, a5, a6), (b0, b1, b2, b3, b4, b5, b6), (e0, e1, e2, e3, e4, e5, e6), an)) else if ¬ (0 ≤ g ∧ g ≤ 7) then (.inr 6, ((dt, dw, lg, cb), (rm, fx, fy, fw, fh, ct), (N, co, de, sn), (sa, sb, sd, se), (a0, a1, a2, a3, a4, a5, a6), (b0, b1, b2, b3, b4, b5, b6), (e0, e1, e2, e3, e4, e5, e6), an)) else if (0 ≤ k ∧ k ≤ 7) then (.inl none, ((dt, dw, lg, cb), (rm, fx, fy, fw, fh, ct), (N, co, de, sn), (sa, sb, sd, se), (a0, a1, a2, a3, a4, a5, a6), (t, v, m, w, f, g, k), (e0, e1, e2, e3, e4, e5, e6), an)) else (.inr 6, ((dt, dw, lg, cb), (rm, fx, fy, fw, fh, ct), (N, co, de, sn), (sa, sb, sd, se), (a0, a1, a2, a3, a4, a5, a6), (b0, b1, b2, b3, b4, b5, b6), (e0, e1, e2, e3, e4, e5, e6), an))) else (.inr 6, ((dt, dw, lg, cb), (rm, fx, fy, fw, fh, ct), (N, co, de, sn), (sa, sb, sd, se), (a0, a1, a2, a3, a4, a5, a6), (b0, b1, b2, b3, b4, b5, b6), (e0, e1, e2, e3, e4, e5, e6), an))) else (.inr 6, ((dt, dw, lg, cb), (rm, fx, fy, fw, fh, ct), (N, co, de, sn), (sa, sb, sd, se), (a0, a1, a2, a3, a4, a5, a6), (b0, b1, b2, b3, b4, b5, b6), (e0, e1, e2, e3, e4, e5, e6), an))) else (.inl none, ((dt, dw, lg, cb), (rm, fx, fy, fw, fh, ct), (N, co, de, sn), (sa, sb, sd, se), (a0, a1, a2, a3, a4, a5, a6), ((-1), b1, b2, b3, b4, b5, b6), (e0, e1, e2, e3, e4, e5, e6), an)))) else (.inr 6, ((dt, dw, lg, cb), (rm, fx, fy, fw, fh, ct), (N, co, de, sn), (sa, sb, sd, se), (a0, a1, a2, a3, a4, a5, a6), (b0, b1, b2, b3, b4, b5, b6), (e0, e1, e2, e3, e4, e5, e6), an))
def T_PT_stencil : ClassId → ClassId → zT := fun cI _ as h K => ∃ (c : cSt) (r : zH) (sd0 t v m w f g k : Int32), as = [.ref 0, .int sd0, .int t, .int v, .int m, .int w, .int f, .int g, .int k] ∧ h = hC cI c r ∧ K (f_PT_stencil c sd0 t v m w f g k).1 (hC cI (f_PT_stencil c sd0 t v m w f g k).2 r)
def E_PT_stencil : ClassId → ClassId → Nat → Nat → Option zEn := fun cI cL kd i => match kd, i with
  | 0, 94 => some (1, none, true, true, 0, 0, T_PT_isSide cI cL)
  | 1, 100 => some (2, some 0, true, true, 0, 0, T_PT_ruleOf cI cL)
  | 0, 60 => some (3, none, true, true, 0, 0, T_PT_isWithin cI cL)
  | 0, 107 => some (1, none, true, true, 0, 0, T_PT_isByte cI cL)
  | 0, 112 => some (1, none, true, true, 0, 0, T_PT_isDeed cI cL)
  | _, _ => none
theorem E_PT_stencil_k : (∀ cI cL, E_PT_stencil cI cL 0 94 = some (1, none, true, true, 0, 0, T_PT_isSide cI cL)) ∧ (∀ cI cL, E_PT_stencil cI cL 1 100 = some (2, some 0, true, true, 0, 0, T_PT_ruleOf cI cL)) ∧ (∀ cI cL, E_PT_stencil cI cL 0 60 = some (3, none, true, true, 0, 0, T_PT_isWithin cI cL)) ∧ (∀ cI cL, E_PT_stencil cI cL 0 107 = some (1, none, true, true, 0, 0, T_PT_isByte cI cL)) ∧ (∀ cI cL, E_PT_stencil cI cL 0 112 = some (1, none, true, true, 0, 0, T_PT_isDeed cI cL)) := ⟨fun _ _ => rfl, fun _ _ => rfl, fun _ _ => rfl, fun _ _ => rfl, fun _ _ => rfl⟩
set_option maxHeartbeats 4000000 in
set_option maxRecDepth 100000 in
theorem C_PT_stencil {l : Launch} (hl : l.stackTraces = false) : zC l y_PT_stencil (Cond.code y_PT_stencil prog_1_method_5_code 10 none :: wsG) (rmL 7 1 6) zcl false 1 6 T_PT_stencil := by
  refine zC_of (G := G_PT) (E := E_PT_stencil) (X := X_PT) (SL := SL_PT) (NW := zNn) (CS := CS_PT) (ctor := false) hl (by decide) rfl rfl rfl G_PT_ok (fun z => by cases z) CS_PT_ok (fun _ _ _ _ z => by cases z) (List.mem_cons_of_mem _ ka_i) (fun i ci ic z => ⟨X_PT_ok i ci ic z, by decide, by decide⟩) SL_PT_ok (by
    intro p e s m args below meth c D A cI cL hx hb hml hown hts hK hA hEX kd idx en hE
    unfold E_PT_stencil at hE
    split at hE
    · cases hE; exact zRow_S (C_PT_isSide hl) rfl (Or.inl ⟨_, _, rfl⟩) hx hb hml hown hts hK hA hEX (hin_c kb_PT_isSide) (List.mem_cons_of_mem _ kn_PT) (List.mem_cons_of_mem _ ks_PT_isSide) (Or.inl (List.mem_cons_of_mem _ km_PT_94)) (by decide) (by decide) (by decide) rfl rfl
    · cases hE; exact zRow_V (C_PT_ruleOf hl) rfl (Or.inl ⟨_, _, rfl⟩) hx hb hml hown hts hK hA hEX (hin_c kb_PT_ruleOf) (List.mem_cons_of_mem _ kn_PT) (List.mem_cons_of_mem _ ki_PT_ruleOf) (List.mem_cons_of_mem _ kv_PT_ruleOf) rfl (Or.inl (List.mem_cons_of_mem _ km_PT_100)) (by decide) (by decide) (by decide) rfl rfl
    · cases hE; exact zRow_S (C_PT_isWithin hl) rfl (Or.inl ⟨_, _, rfl⟩) hx hb hml hown hts hK hA hEX (hin_c kb_PT_isWithin) (List.mem_cons_of_mem _ kn_PT) (List.mem_cons_of_mem _ ks_PT_isWithin) (Or.inl (List.mem_cons_of_mem _ km_PT_60)) (by decide) (by decide) (by decide) rfl rfl
    · cases hE; exact zRow_S (C_PT_isByte hl) rfl (Or.inl ⟨_, _, rfl⟩) hx hb hml hown hts hK hA hEX (hin_c kb_PT_isByte) (List.mem_cons_of_mem _ kn_PT) (List.mem_cons_of_mem _ ks_PT_isByte) (Or.inl (List.mem_cons_of_mem _ km_PT_107)) (by decide) (by decide) (by decide) rfl rfl
    · cases hE; exact zRow_S (C_PT_isDeed hl) rfl (Or.inl ⟨_, _, rfl⟩) hx hb hml hown hts hK hA hEX (hin_c kb_PT_isDeed) (List.mem_cons_of_mem _ kn_PT) (List.mem_cons_of_mem _ ks_PT_isDeed) (Or.inl (List.mem_cons_of_mem _ km_PT_112)) (by decide) (by decide) (by decide) rfl rfl
    · cases hE) ?_
  intro cI cL as h K hT
  obtain ⟨⟨⟨dt, dw, lg, cb⟩, ⟨rm, fx, fy, fw, fh, ct⟩, ⟨N, co, de, sn⟩, ⟨sa, sb, sd, se⟩, ⟨a0, a1, a2, a3, a4, a5, a6⟩, ⟨b0, b1, b2, b3, b4, b5, b6⟩, ⟨e0, e1, e2, e3, e4, e5, e6⟩, an⟩, r, sd0, t, v, m, w, f, g, k, rfl, rfl, hT⟩ := hT
  refine ⟨by simp [Value.category], by simp, fun Jd hc => zw_sound (J := fun _ => none) hc (fun _ _ z => by cases z) 84 0 _ _ _ _ _ _ ?_⟩
  simp (maxSteps := 4000000) only [zlc, zif0, zf3, D_PT_stencil_0, D_PT_stencil_1, G_PT_k, E_PT_stencil_k, T_PT_isSide, f_wi_0, znr_wi, T_PT_ruleOf, T_PT_isWithin, T_PT_isByte, T_PT_isDeed, CS_PT_k, N_PT_k, hC, hR, Classical.not_not, zw_S, zk_iconst, zk_bipush, zk_sipush, zk_ldc, zk_ldc_w, zk_aconst_null, zk_iload_n, zk_iload, zk_aload_n, zk_aload, zk_istore_n, zk_istore, zk_astore_n, zk_astore, zk_iinc, zk_iadd, zk_isub, zk_imul, zk_idiv, zk_iand, zk_ior, zk_ixor, zk_ishl, zk_ishr, zk_iushr, zk_i2l, zk_lcmp, zk_dup, zk_pop, zk_dup_x1, zk_dup2, zk_dup_x2, zk_goto, zk_ifCond, zk_if_icmp, zk_tableswitch, zk_getfield, zk_putfield, zk_iaload, zk_iastore, zk_laload, zk_lastore, zk_arraylength, zk_invokestatic, zk_invokevirtual, zk_invokespecial, zk_new, zk_newarray, zk_ireturn, zk_areturn, zk_return_, zi1_k, zi2_k, zr1_k, zri_k, zrii_k, zril_k, zvr_k, zl2_k, zv1_k, zv2_k, zv3_k, zli_k, zlr_k, zob_k, zai_k, zal_k, zfv_k, zlim_k, zlrm_k, zobm_k, zaim_k, zalm_k, zfvm_k, zgetf_k, zput_k, zcal_k, zrv_n, zrv_s, zswT_n, zswT_c, zgo_k, zcc_eq, zcc_ne, zcc_lt, zcc_ge, zcc_gt, zcc_le, zldj_k, zexc_k, znew_k, zial_k, zct_i, zct_l, zct_r, zct_n, zKK_r, zKK_x, znr_i, znr_0, znr_1, znr_v, znr_a, znr_o, znar_i, znar_r, znar_a, zfit_i, zfit_r, zfit_a, zbc, zlit, eq_self, List.getElem?_cons_zero, List.getElem?_cons_succ, List.set_cons_zero, List.set_cons_succ, List.take_succ_cons, List.take_zero, List.drop_succ_cons, List.drop_zero, List.reverse_cons, List.reverse_nil, List.nil_append, List.cons_append, List.append_nil, List.length_cons, List.length_nil, List.map_cons, List.map_nil, List.sum_cons, List.sum_nil, Option.toList_some, Option.toList_none, Nat.zero_add, Nat.add_zero, Bool.or_false, Bool.false_or, Bool.or_true, Bool.true_or, Bool.not_true, Bool.not_false, ge_iff_le, Fin.isValue, Fin.val_zero, Fin.val_one, Fin.val_two, true_and, and_true, true_implies, false_implies, forall_const, if_true, if_false, ite_true, ite_false, reduceIte, reduceCtorEq, true_or, or_true, and_self, implies_true, not_false_eq_true, not_true_eq_false, Nat.le_refl, Nat.zero_le, and_false, false_and, Nat.reduceAdd, Nat.reduceSub, Nat.reduceLT, Nat.reduceLeDiff, Nat.reduceMul, Nat.reduceEqDiff, Int.reduceAdd, Int.reduceNeg, Int.reduceToNat, Int.reduceLE, Int.reduceNatCast, Int.reduceSub, Int.reduceLT, Int.reduceEq, List.replicate_zero, List.replicate_succ, Int.reduceNatCast', Int32.reduceOfInt, Int32.reduceLT, Int32.reduceLE, Int32.reduceAdd, Int32.reduceSub, Int32.reduceMul, Int32.reduceToInt, Int32.reduceToNatClampNeg]
  simp only [f_PT_stencil, zKp K (fun c => hC cI c r), Classical.not_not] at hT
  simp only [hC, hR] at hT
  exact hT
end
section
def f_PT_at (c : cSt) (x y w : Int32) : zO × cSt := match c with
  | ((dt, dw, lg, cb), (rm, fx, fy, fw, fh, ct), (N, co, de, sn), (sa, sb, sd, se), (a0, a1, a2, a3, a4, a5, a6), (b0, b1, b2, b3, b4, b5, b6), (e0, e1, e2, e3, e4, e5, e6), an) => if (0 ≤ w ∧ w ≤ 2) then (if ¬ f_has fx fy fw fh x y = 0 then (if w = 0 then (.inl (some (.int (co (f_idx fx fy fw x y).toNatClampNeg))), ((dt, dw, lg, cb), (rm, fx, fy, fw, fh, ct), (N, co, de, sn), (sa, sb, sd, se), (a0, a1, a2, a3, a4, a5, a6), (b0, b1, b2, b3, b4, b5, b6), (e0, e1, e2, e3, e4, e5, e6), an)) else if w = 1 then (.inl (some (.int (de (f_idx fx fy fw x y).toNatClampNeg))), ((dt, dw, lg, cb), (rm, fx, fy, fw, fh, ct), (N, co, de, sn), (sa, sb, sd, se), (a0, a1, a2, a3, a4, a5, a6), (b0, b1, b2, b3, b4, b5, b6), (e0, e1, e2, e3, e4, e5, e6), an)) else (.inl (some (.int (sn (f_idx fx fy fw x y).toNatClampNeg))), ((dt, dw, lg, cb), (rm, fx, fy, fw, fh, ct), (N, co, de, sn), (sa, sb, sd, se), (a0, a1, a2, a3, a4, a5, a6), (b0, b1, b2, b3, b4, b5, b6), (e0, e1, e2, e3, e4, e5, e6), an))) else (.inr 7, ((dt, dw, lg, cb), (rm, fx, fy, fw, fh, ct), (N, co, de, sn), (sa, sb, sd, se), (a0, a1, a2, a3, a4, a5, a6), (b0, b1, b2, b3, b4, b5, b6), (e0, e1, e2, e3, e4, e5, e6), an))) else (.inr 6, ((dt, dw, lg, cb), (rm, fx, fy, fw, fh, ct), (N, co, de, sn), (sa, sb, sd, se), (a0, a1, a2, a3, a4, a5, a6), (b0, b1, b2, b3, b4, b5, b6), (e0, e1, e2, e3, e4, e5, e6), an))
def T_PT_at : ClassId → ClassId → zT := fun cI _ as h K => ∃ (c : cSt) (r : zH) (x y w : Int32), as = [.ref 0, .int x, .int y, .int w] ∧ h = hC cI c r ∧ cIn c x y ∧ K (f_PT_at c x y w).1 (hC cI (f_PT_at c x y w).2 r)
def E_PT_at : ClassId → ClassId → Nat → Nat → Option zEn := fun cI cL kd i => match kd, i with
  | 0, 60 => some (3, none, true, true, 0, 0, T_PT_isWithin cI cL)
  | 1, 202 => some (3, some 1, true, true, 0, 0, T_FR_has cI cL)
  | 1, 220 => some (2, some 1, true, true, 0, 0, T_FR_rowsOf cI cL)
  | 1, 194 => some (3, some 1, true, true, 0, 0, T_FR_indexOf cI cL)
  | _, _ => none
theorem E_PT_at_k : (∀ cI cL, E_PT_at cI cL 0 60 = some (3, none, true, true, 0, 0, T_PT_isWithin cI cL)) ∧ (∀ cI cL, E_PT_at cI cL 1 202 = some (3, some 1, true, true, 0, 0, T_FR_has cI cL)) ∧ (∀ cI cL, E_PT_at cI cL 1 220 = some (2, some 1, true, true, 0, 0, T_FR_rowsOf cI cL)) ∧ (∀ cI cL, E_PT_at cI cL 1 194 = some (3, some 1, true, true, 0, 0, T_FR_indexOf cI cL)) := ⟨fun _ _ => rfl, fun _ _ => rfl, fun _ _ => rfl, fun _ _ => rfl⟩
set_option maxHeartbeats 4000000 in
set_option maxRecDepth 100000 in
theorem C_PT_at {l : Launch} (hl : l.stackTraces = false) : zC l y_PT_at (Cond.code y_PT_at prog_1_method_12_code 4 (some .int) :: wsG) (rmL 7 1 6) zcl true 1 6 T_PT_at := by
  refine zC_of (G := G_PT) (E := E_PT_at) (X := X_PT) (SL := SL_PT) (NW := zNn) (CS := CS_PT) (ctor := false) hl (by decide) rfl rfl rfl G_PT_ok (fun z => by cases z) CS_PT_ok (fun _ _ _ _ z => by cases z) (List.mem_cons_of_mem _ ka_i) (fun i ci ic z => ⟨X_PT_ok i ci ic z, by decide, by decide⟩) SL_PT_ok (by
    intro p e s m args below meth c D A cI cL hx hb hml hown hts hK hA hEX kd idx en hE
    unfold E_PT_at at hE
    split at hE
    · cases hE; exact zRow_S (C_PT_isWithin hl) rfl (Or.inl ⟨_, _, rfl⟩) hx hb hml hown hts hK hA hEX (hin_c kb_PT_isWithin) (List.mem_cons_of_mem _ kn_PT) (List.mem_cons_of_mem _ ks_PT_isWithin) (Or.inl (List.mem_cons_of_mem _ km_PT_60)) (by decide) (by decide) (by decide) rfl rfl
    · cases hE; exact zRow_V (C_FR_has hl) rfl (Or.inl ⟨_, _, rfl⟩) hx hb hml hown hts hK hA hEX (hin_c kb_FR_has) (List.mem_cons_of_mem _ kn_FR) (List.mem_cons_of_mem _ ki_FR_has) (List.mem_cons_of_mem _ kv_FR_has) rfl (Or.inr ⟨_, List.mem_cons_of_mem _ km_PT_202⟩) (by decide) (by decide) (by decide) rfl rfl
    · cases hE; exact zRow_V (C_FR_rowsOf hl) rfl (Or.inl ⟨_, _, rfl⟩) hx hb hml hown hts hK hA hEX (hin_c kb_FR_rowsOf) (List.mem_cons_of_mem _ kn_FR) (List.mem_cons_of_mem _ ki_FR_rowsOf) (List.mem_cons_of_mem _ kv_FR_rowsOf) rfl (Or.inr ⟨_, List.mem_cons_of_mem _ km_PT_220⟩) (by decide) (by decide) (by decide) rfl rfl
    · cases hE; exact zRow_V (C_FR_indexOf hl) rfl (Or.inl ⟨_, _, rfl⟩) hx hb hml hown hts hK hA hEX (hin_c kb_FR_indexOf) (List.mem_cons_of_mem _ kn_FR) (List.mem_cons_of_mem _ ki_FR_indexOf) (List.mem_cons_of_mem _ kv_FR_indexOf) rfl (Or.inr ⟨_, List.mem_cons_of_mem _ km_PT_194⟩) (by decide) (by decide) (by decide) rfl rfl
    · cases hE) ?_
  intro cI cL as h K hT
  obtain ⟨⟨⟨dt, dw, lg, cb⟩, ⟨rm, fx, fy, fw, fh, ct⟩, ⟨N, co, de, sn⟩, ⟨sa, sb, sd, se⟩, ⟨a0, a1, a2, a3, a4, a5, a6⟩, ⟨b0, b1, b2, b3, b4, b5, b6⟩, ⟨e0, e1, e2, e3, e4, e5, e6⟩, an⟩, r, x, y, w, rfl, rfl, hp, hT⟩ := hT
  have hv : ¬ f_has fx fy fw fh x y = 0 → vp_in (f_idx fx fy fw x y) N := hp
  refine ⟨by simp [Value.category], by simp, fun Jd hc => zw_sound (J := fun _ => none) hc (fun _ _ z => by cases z) 40 0 _ _ _ _ _ _ ?_⟩
  simp only [f_PT_at, zKp K (fun c => hC cI c r), Classical.not_not] at hT
  simp only [hC, hR] at hT
  by_cases hh : f_has fx fy fw fh x y = 0
  · simp (maxSteps := 4000000) only [hh, zlc, zif0, zf3, D_PT_at, G_PT_k, E_PT_at_k, T_PT_isWithin, f_wi_0, znr_wi, T_FR_has, T_FR_rowsOf, T_FR_indexOf, CS_PT_k, N_PT_k, hC, hR, Classical.not_not, zw_S, zk_iconst, zk_bipush, zk_sipush, zk_ldc, zk_ldc_w, zk_aconst_null, zk_iload_n, zk_iload, zk_aload_n, zk_aload, zk_istore_n, zk_istore, zk_astore_n, zk_astore, zk_iinc, zk_iadd, zk_isub, zk_imul, zk_idiv, zk_iand, zk_ior, zk_ixor, zk_ishl, zk_ishr, zk_iushr, zk_i2l, zk_lcmp, zk_dup, zk_pop, zk_dup_x1, zk_dup2, zk_dup_x2, zk_goto, zk_ifCond, zk_if_icmp, zk_tableswitch, zk_getfield, zk_putfield, zk_iaload, zk_iastore, zk_laload, zk_lastore, zk_arraylength, zk_invokestatic, zk_invokevirtual, zk_invokespecial, zk_new, zk_newarray, zk_ireturn, zk_areturn, zk_return_, zi1_k, zi2_k, zr1_k, zri_k, zrii_k, zril_k, zvr_k, zl2_k, zv1_k, zv2_k, zv3_k, zli_k, zlr_k, zob_k, zai_k, zal_k, zfv_k, zlim_k, zlrm_k, zobm_k, zaim_k, zalm_k, zfvm_k, zgetf_k, zput_k, zcal_k, zrv_n, zrv_s, zswT_n, zswT_c, zgo_k, zcc_eq, zcc_ne, zcc_lt, zcc_ge, zcc_gt, zcc_le, zldj_k, zexc_k, znew_k, zial_k, zct_i, zct_l, zct_r, zct_n, zKK_r, zKK_x, znr_i, znr_0, znr_1, znr_v, znr_a, znr_o, znar_i, znar_r, znar_a, zfit_i, zfit_r, zfit_a, zbc, zlit, eq_self, List.getElem?_cons_zero, List.getElem?_cons_succ, List.set_cons_zero, List.set_cons_succ, List.take_succ_cons, List.take_zero, List.drop_succ_cons, List.drop_zero, List.reverse_cons, List.reverse_nil, List.nil_append, List.cons_append, List.append_nil, List.length_cons, List.length_nil, List.map_cons, List.map_nil, List.sum_cons, List.sum_nil, Option.toList_some, Option.toList_none, Nat.zero_add, Nat.add_zero, Bool.or_false, Bool.false_or, Bool.or_true, Bool.true_or, Bool.not_true, Bool.not_false, ge_iff_le, Fin.isValue, Fin.val_zero, Fin.val_one, Fin.val_two, true_and, and_true, true_implies, false_implies, forall_const, if_true, if_false, ite_true, ite_false, reduceIte, reduceCtorEq, true_or, or_true, and_self, implies_true, not_false_eq_true, not_true_eq_false, Nat.le_refl, Nat.zero_le, and_false, false_and, Nat.reduceAdd, Nat.reduceSub, Nat.reduceLT, Nat.reduceLeDiff, Nat.reduceMul, Nat.reduceEqDiff, Int.reduceAdd, Int.reduceNeg, Int.reduceToNat, Int.reduceLE, Int.reduceNatCast, Int.reduceSub, Int.reduceLT, Int.reduceEq, List.replicate_zero, List.replicate_succ, Int.reduceNatCast', Int32.reduceOfInt, Int32.reduceLT, Int32.reduceLE, Int32.reduceAdd, Int32.reduceSub, Int32.reduceMul, Int32.reduceToInt, Int32.reduceToNatClampNeg]
    simp only [hh, not_true_eq_false, false_implies, true_and, and_true, true_implies, forall_const] at hT
    exact hT
  · have hv := hv hh
    simp (maxSteps := 4000000) only [hh, hv, zlc, zif0, zf3, D_PT_at, G_PT_k, E_PT_at_k, T_PT_isWithin, f_wi_0, znr_wi, T_FR_has, T_FR_rowsOf, T_FR_indexOf, CS_PT_k, N_PT_k, hC, hR, Classical.not_not, zw_S, zk_iconst, zk_bipush, zk_sipush, zk_ldc, zk_ldc_w, zk_aconst_null, zk_iload_n, zk_iload, zk_aload_n, zk_aload, zk_istore_n, zk_istore, zk_astore_n, zk_astore, zk_iinc, zk_iadd, zk_isub, zk_imul, zk_idiv, zk_iand, zk_ior, zk_ixor, zk_ishl, zk_ishr, zk_iushr, zk_i2l, zk_lcmp, zk_dup, zk_pop, zk_dup_x1, zk_dup2, zk_dup_x2, zk_goto, zk_ifCond, zk_if_icmp, zk_tableswitch, zk_getfield, zk_putfield, zk_iaload, zk_iastore, zk_laload, zk_lastore, zk_arraylength, zk_invokestatic, zk_invokevirtual, zk_invokespecial, zk_new, zk_newarray, zk_ireturn, zk_areturn, zk_return_, zi1_k, zi2_k, zr1_k, zri_k, zrii_k, zril_k, zvr_k, zl2_k, zv1_k, zv2_k, zv3_k, zli_k, zlr_k, zob_k, zai_k, zal_k, zfv_k, zlim_k, zlrm_k, zobm_k, zaim_k, zalm_k, zfvm_k, zgetf_k, zput_k, zcal_k, zrv_n, zrv_s, zswT_n, zswT_c, zgo_k, zcc_eq, zcc_ne, zcc_lt, zcc_ge, zcc_gt, zcc_le, zldj_k, zexc_k, znew_k, zial_k, zct_i, zct_l, zct_r, zct_n, zKK_r, zKK_x, znr_i, znr_0, znr_1, znr_v, znr_a, znr_o, znar_i, znar_r, znar_a, zfit_i, zfit_r, zfit_a, zbc, zlit, eq_self, List.getElem?_cons_zero, List.getElem?_cons_succ, List.set_cons_zero, List.set_cons_succ, List.take_succ_cons, List.take_zero, List.drop_succ_cons, List.drop_zero, List.reverse_cons, List.reverse_nil, List.nil_append, List.cons_append, List.append_nil, List.length_cons, List.length_nil, List.map_cons, List.map_nil, List.sum_cons, List.sum_nil, Option.toList_some, Option.toList_none, Nat.zero_add, Nat.add_zero, Bool.or_false, Bool.false_or, Bool.or_true, Bool.true_or, Bool.not_true, Bool.not_false, ge_iff_le, Fin.isValue, Fin.val_zero, Fin.val_one, Fin.val_two, true_and, and_true, true_implies, false_implies, forall_const, if_true, if_false, ite_true, ite_false, reduceIte, reduceCtorEq, true_or, or_true, and_self, implies_true, not_false_eq_true, not_true_eq_false, Nat.le_refl, Nat.zero_le, and_false, false_and, Nat.reduceAdd, Nat.reduceSub, Nat.reduceLT, Nat.reduceLeDiff, Nat.reduceMul, Nat.reduceEqDiff, Int.reduceAdd, Int.reduceNeg, Int.reduceToNat, Int.reduceLE, Int.reduceNatCast, Int.reduceSub, Int.reduceLT, Int.reduceEq, List.replicate_zero, List.replicate_succ, Int.reduceNatCast', Int32.reduceOfInt, Int32.reduceLT, Int32.reduceLE, Int32.reduceAdd, Int32.reduceSub, Int32.reduceMul, Int32.reduceToInt, Int32.reduceToNatClampNeg]
    simp only [hh, not_false_eq_true, false_implies, true_and, and_true, true_implies, forall_const] at hT
    exact hT
end
section
def rdC (h : zH) (f : cSt → zH → Prop) : Prop := match h with
  | .inr (0, [.ref 1, .ref 5, .int dt, .int dw, .ref 6, .ref 7, .ref 8, .int lg, .int cb, .ref 9]) :: .inr (1, [.int rm, .ref 2, .ref 3, .ref 4, .int fx, .int fy, .int fw, .int fh, .int ct]) :: .inl (CA1, N, .inl co) :: .inl (CA2, N2, .inl de) :: .inl (CA3, N3, .inl sn) :: .inr (2, [.int sa, .int sb, .int sd, .int se]) :: .inr (3, [.int a0, .int a1, .int a2, .int a3, .int a4, .int a5, .int a6]) :: .inr (3, [.int b0, .int b1, .int b2, .int b3, .int b4, .int b5, .int b6]) :: .inr (4, [.int e0, .int e1, .int e2, .int e3, .int e4, .int e5, .int e6]) :: .inl (CA4, N4, .inl an) :: r => f ((dt, dw, lg, cb), (rm, fx, fy, fw, fh, ct), (N, co, de, sn), (sa, sb, sd, se), (a0, a1, a2, a3, a4, a5, a6), (b0, b1, b2, b3, b4, b5, b6), (e0, e1, e2, e3, e4, e5, e6), an) r
  | _ => False
theorem rdC_k (f : cSt → zH → Prop) (CA1 CA2 CA3 CA4 : ClassId) (N N2 N3 N4 : Nat) (co de sn an : Nat → Int32) (dt dw lg cb rm fx fy fw fh ct sa sb sd se a0 a1 a2 a3 a4 a5 a6 b0 b1 b2 b3 b4 b5 b6 e0 e1 e2 e3 e4 e5 e6 : Int32) (r : zH) : rdC (.inr (0, [.ref 1, .ref 5, .int dt, .int dw, .ref 6, .ref 7, .ref 8, .int lg, .int cb, .ref 9]) :: .inr (1, [.int rm, .ref 2, .ref 3, .ref 4, .int fx, .int fy, .int fw, .int fh, .int ct]) :: .inl (CA1, N, .inl co) :: .inl (CA2, N2, .inl de) :: .inl (CA3, N3, .inl sn) :: .inr (2, [.int sa, .int sb, .int sd, .int se]) :: .inr (3, [.int a0, .int a1, .int a2, .int a3, .int a4, .int a5, .int a6]) :: .inr (3, [.int b0, .int b1, .int b2, .int b3, .int b4, .int b5, .int b6]) :: .inr (4, [.int e0, .int e1, .int e2, .int e3, .int e4, .int e5, .int e6]) :: .inl (CA4, N4, .inl an) :: r) f = f ((dt, dw, lg, cb), (rm, fx, fy, fw, fh, ct), (N, co, de, sn), (sa, sb, sd, se), (a0, a1, a2, a3, a4, a5, a6), (b0, b1, b2, b3, b4, b5, b6), (e0, e1, e2, e3, e4, e5, e6), an) r := propext Iff.rfl
theorem rdC_s {h : zH} {f : cSt → zH → Prop} (hw : rdC h f) : ∃ c r, f c r := by
  unfold rdC at hw
  split at hw
  · exact ⟨_, _, hw⟩
  · exact hw.elim
def c_sn (c : cSt) (g : Nat → Int32) : cSt := (c.1, c.2.1, (c.2.2.1.1, c.2.2.1.2.1, c.2.2.1.2.2.1, g), c.2.2.2)
def c_de (c : cSt) (g : Nat → Int32) : cSt := (c.1, c.2.1, (c.2.2.1.1, c.2.2.1.2.1, g, c.2.2.1.2.2.2), c.2.2.2)
def c_co (c : cSt) (g : Nat → Int32) : cSt := (c.1, c.2.1, (c.2.2.1.1, g, c.2.2.1.2.2.1, c.2.2.1.2.2.2), c.2.2.2)
def c_an (c : cSt) (k : Nat) : cSt := (c.1, c.2.1, c.2.2.1, c.2.2.2.1, c.2.2.2.2.1, c.2.2.2.2.2.1, c.2.2.2.2.2.2.1, upd c.2.2.2.2.2.2.2 k (c.2.2.2.2.2.2.2 k + 1))
def f_chg (t : cR) (x d : Int32) : Int32 := if t.1 = -1 then x else f_mrg x (f_deed t.2.1 x d) t.2.2.2.1
/-- the colour that comes -/
def f_col (c : cSt) (i : Nat) (col : Int32) : Int32 := f_mrg (c.2.2.1.2.1 i) (f_new c.1.2.2.1 c.2.2.2.2.2.2.1.1 c.2.2.2.2.2.2.1.2.1 c.2.2.2.2.2.2.1.2.2.1 c.2.2.2.2.2.2.1.2.2.2.1 c.2.2.2.2.2.2.1.2.2.2.2.1 c.2.2.2.2.2.2.1.2.2.2.2.2.1 c.2.2.2.2.2.2.1.2.2.2.2.2.2 col (c.2.2.1.2.1 i)) c.1.2.2.2
def f_hit {α : Sort _} (L : Nat → Int32 → cSt → α) (c : cSt) (t : cR) (i : Nat) (dp col : Int32) : α := if c.1.1 = -1 then L 3 3 (c_co (c_sn c (upd c.2.2.1.2.2.2 i (f_chg t (c.2.2.1.2.2.2 i) t.2.2.2.2.2.2))) (upd c.2.2.1.2.1 i (f_col c i col))) else if c.1.2.1 = 0 then L 3 3 (c_co (c_sn c (upd c.2.2.1.2.2.2 i (f_chg t (c.2.2.1.2.2.2 i) t.2.2.2.2.2.2))) (upd c.2.2.1.2.1 i (f_col c i col))) else L 3 3 (c_co (c_de (c_sn c (upd c.2.2.1.2.2.2 i (f_chg t (c.2.2.1.2.2.2 i) t.2.2.2.2.2.2))) (upd c.2.2.1.2.2.1 i dp)) (upd c.2.2.1.2.1 i (f_col c i col)))
def f_open {α : Sort _} (L : Nat → Int32 → cSt → α) (c : cSt) (t : cR) (i : Nat) (dp col : Int32) : α := if ¬ f_all t.1 t.2.1 t.2.2.1 (c.2.2.1.2.2.2 i) = 0 then (if c.1.1 = -1 then f_hit L c t i dp col else if ¬ f_cmp c.1.1 dp (c.2.2.1.2.2.1 i) = 0 then f_hit L c t i dp col else L 2 2 (c_sn c (upd c.2.2.1.2.2.2 i (f_chg t (c.2.2.1.2.2.2 i) t.2.2.2.2.2.1)))) else L 1 1 (c_sn c (upd c.2.2.1.2.2.2 i (f_chg t (c.2.2.1.2.2.2 i) t.2.2.2.2.1)))
theorem zip {c p q : Prop} [Decidable c] : (if c then p else q) = ((c → p) ∧ (¬ c → q)) := by
  by_cases z : c
  · simp [z]
  · simp [z]
def zT_open (cI : ClassId) (sd : Nat) (i dp col : Int32) (h : zH) (K : zO → zH → Prop) (c : cSt) (r : zH) (t : cR) : Prop := h = hC cI c r ∧ vp_in i c.2.2.1.1 ∧ f_open (fun _ v c' => K (.inl (some (.int v))) (hC cI c' r)) c t i.toNatClampNeg dp col
def T_PT_drawOpen : ClassId → ClassId → zT := fun cI _ as h K => match as with
  | [.ref 0, .int i, .int dp, .ref 6, .int col] => rdC h (fun c r => zT_open cI 6 i dp col h K c r c.2.2.2.2.1)
  | [.ref 0, .int i, .int dp, .ref 7, .int col] => rdC h (fun c r => zT_open cI 7 i dp col h K c r c.2.2.2.2.2.1)
  | _ => False
def E_PT_drawOpen : ClassId → ClassId → Nat → Nat → Option zEn := fun cI cL kd i => match kd, i with
  | 1, 232 => some (2, some 3, true, true, 0, 0, T_ST_allows cI cL)
  | 1, 235 => some (3, some 3, true, true, 0, 0, T_ST_changed cI cL)
  | 0, 241 => some (3, none, true, true, 0, 0, T_PT_compares cI cL)
  | 1, 247 => some (3, some 0, true, true, 0, 0, T_PT_newColour cI cL)
  | 0, 250 => some (3, none, true, true, 0, 0, T_PT_merged cI cL)
  | _, _ => none
theorem E_PT_drawOpen_k : (∀ cI cL, E_PT_drawOpen cI cL 1 232 = some (2, some 3, true, true, 0, 0, T_ST_allows cI cL)) ∧ (∀ cI cL, E_PT_drawOpen cI cL 1 235 = some (3, some 3, true, true, 0, 0, T_ST_changed cI cL)) ∧ (∀ cI cL, E_PT_drawOpen cI cL 0 241 = some (3, none, true, true, 0, 0, T_PT_compares cI cL)) ∧ (∀ cI cL, E_PT_drawOpen cI cL 1 247 = some (3, some 0, true, true, 0, 0, T_PT_newColour cI cL)) ∧ (∀ cI cL, E_PT_drawOpen cI cL 0 250 = some (3, none, true, true, 0, 0, T_PT_merged cI cL)) := ⟨fun _ _ => rfl, fun _ _ => rfl, fun _ _ => rfl, fun _ _ => rfl, fun _ _ => rfl⟩
set_option maxHeartbeats 4000000 in
set_option maxRecDepth 100000 in
theorem C_PT_drawOpen {l : Launch} (hl : l.stackTraces = false) : zC l y_PT_drawOpen (Cond.code y_PT_drawOpen prog_1_method_15_code 7 (some .int) :: wsG) (rmL 6 0 0) zcl false 0 0 T_PT_drawOpen := by
  refine zC_of (G := G_PT) (E := E_PT_drawOpen) (X := zXn) (SL := zSn) (NW := zNn) (CS := zCn) (ctor := false) hl (by decide) rfl rfl rfl G_PT_ok (fun z => by cases z) (fun _ _ z => by cases z) (fun _ _ _ _ z => by cases z) (List.mem_cons_of_mem _ ka_i) (fun _ _ _ z => by cases z) (fun _ z => by cases z) (by
    intro p e s m args below meth c D A cI cL hx hb hml hown hts hK hA hEX kd idx en hE
    unfold E_PT_drawOpen at hE
    split at hE
    · cases hE; exact zRow_V (C_ST_allows hl) rfl (Or.inl ⟨_, _, rfl⟩) hx hb hml hown hts hK hA hEX (hin_c kb_ST_allows) (List.mem_cons_of_mem _ kn_ST) (List.mem_cons_of_mem _ ki_ST_allows) (List.mem_cons_of_mem _ kv_ST_allows) rfl (Or.inr ⟨_, List.mem_cons_of_mem _ km_PT_232⟩) (by decide) (by decide) (by decide) rfl rfl
    · cases hE; exact zRow_V (C_ST_changed hl) rfl (Or.inl ⟨_, _, rfl⟩) hx hb hml hown hts hK hA hEX (hin_c kb_ST_changed) (List.mem_cons_of_mem _ kn_ST) (List.mem_cons_of_mem _ ki_ST_changed) (List.mem_cons_of_mem _ kv_ST_changed) rfl (Or.inr ⟨_, List.mem_cons_of_mem _ km_PT_235⟩) (by decide) (by decide) (by decide) rfl rfl
    · cases hE; exact zRow_S (C_PT_compares hl) rfl (Or.inl ⟨_, _, rfl⟩) hx hb hml hown hts hK hA hEX (hin_c kb_PT_compares) (List.mem_cons_of_mem _ kn_PT) (List.mem_cons_of_mem _ ks_PT_compares) (Or.inl (List.mem_cons_of_mem _ km_PT_241)) (by decide) (by decide) (by decide) rfl rfl
    · cases hE; exact zRow_V (C_PT_newColour hl) rfl (Or.inl ⟨_, _, rfl⟩) hx hb hml hown hts hK hA hEX (hin_c kb_PT_newColour) (List.mem_cons_of_mem _ kn_PT) (List.mem_cons_of_mem _ ki_PT_newColour) (List.mem_cons_of_mem _ kv_PT_newColour) rfl (Or.inl (List.mem_cons_of_mem _ km_PT_247)) (by decide) (by decide) (by decide) rfl rfl
    · cases hE; exact zRow_S (C_PT_merged hl) rfl (Or.inl ⟨_, _, rfl⟩) hx hb hml hown hts hK hA hEX (hin_c kb_PT_merged) (List.mem_cons_of_mem _ kn_PT) (List.mem_cons_of_mem _ ks_PT_merged) (Or.inl (List.mem_cons_of_mem _ km_PT_250)) (by decide) (by decide) (by decide) rfl rfl
    · cases hE) ?_
  intro cI cL as h K hT

  match as, hT with
  | [.ref 0, .int i, .int dp, .ref 6, .int col], hT =>
    replace hT : rdC h (fun c r => zT_open cI 6 i dp col h K c r c.2.2.2.2.1) := hT
    obtain ⟨⟨⟨dt, dw, lg, cb⟩, ⟨rm, fx, fy, fw, fh, ct⟩, ⟨N, co, de, sn⟩, ⟨sa, sb, sd, se⟩, ⟨a0, a1, a2, a3, a4, a5, a6⟩, ⟨b0, b1, b2, b3, b4, b5, b6⟩, ⟨e0, e1, e2, e3, e4, e5, e6⟩, an⟩, r, rfl, hv, hT⟩ := rdC_s hT
    simp only [f_open, f_hit, zip, Classical.not_not] at hT
    simp only [hC, hR, c_sn, c_de, c_co, f_chg, f_col] at hT
    refine ⟨by simp [Value.category], by simp, fun Jd hc => zw_sound (J := fun _ => none) hc (fun _ _ z => by cases z) 100 0 _ _ _ _ _ _ ?_⟩
    simp (maxSteps := 4000000) only [hv, zlc, zif0, zf3, D_PT_drawOpen_0, D_PT_drawOpen_1, G_PT_k, E_PT_drawOpen_k, T_ST_allows, T_ST_changed, T_PT_compares, T_PT_newColour, T_PT_merged, hC, hR, Classical.not_not, zw_S, zk_iconst, zk_bipush, zk_sipush, zk_ldc, zk_ldc_w, zk_aconst_null, zk_iload_n, zk_iload, zk_aload_n, zk_aload, zk_istore_n, zk_istore, zk_astore_n, zk_astore, zk_iinc, zk_iadd, zk_isub, zk_imul, zk_idiv, zk_iand, zk_ior, zk_ixor, zk_ishl, zk_ishr, zk_iushr, zk_i2l, zk_lcmp, zk_dup, zk_pop, zk_dup_x1, zk_dup2, zk_dup_x2, zk_goto, zk_ifCond, zk_if_icmp, zk_tableswitch, zk_getfield, zk_putfield, zk_iaload, zk_iastore, zk_laload, zk_lastore, zk_arraylength, zk_invokestatic, zk_invokevirtual, zk_invokespecial, zk_new, zk_newarray, zk_ireturn, zk_areturn, zk_return_, zi1_k, zi2_k, zr1_k, zri_k, zrii_k, zril_k, zvr_k, zl2_k, zv1_k, zv2_k, zv3_k, zli_k, zlr_k, zob_k, zai_k, zal_k, zfv_k, zlim_k, zlrm_k, zobm_k, zaim_k, zalm_k, zfvm_k, zgetf_k, zput_k, zcal_k, zrv_n, zrv_s, zswT_n, zswT_c, zgo_k, zcc_eq, zcc_ne, zcc_lt, zcc_ge, zcc_gt, zcc_le, zldj_k, zexc_k, znew_k, zial_k, zct_i, zct_l, zct_r, zct_n, zKK_r, zKK_x, znr_i, znr_0, znr_1, znr_v, znr_a, znr_o, znar_i, znar_r, znar_a, zfit_i, zfit_r, zfit_a, zbc, zlit, eq_self, List.getElem?_cons_zero, List.getElem?_cons_succ, List.set_cons_zero, List.set_cons_succ, List.take_succ_cons, List.take_zero, List.drop_succ_cons, List.drop_zero, List.reverse_cons, List.reverse_nil, List.nil_append, List.cons_append, List.append_nil, List.length_cons, List.length_nil, List.map_cons, List.map_nil, List.sum_cons, List.sum_nil, Option.toList_some, Option.toList_none, Nat.zero_add, Nat.add_zero, Bool.or_false, Bool.false_or, Bool.or_true, Bool.true_or, Bool.not_true, Bool.not_false, ge_iff_le, Fin.isValue, Fin.val_zero, Fin.val_one, Fin.val_two, true_and, and_true, true_implies, false_implies, forall_const, if_true, if_false, ite_true, ite_false, reduceIte, reduceCtorEq, true_or, or_true, and_self, implies_true, not_false_eq_true, not_true_eq_false, Nat.le_refl, Nat.zero_le, and_false, false_and, Nat.reduceAdd, Nat.reduceSub, Nat.reduceLT, Nat.reduceLeDiff, Nat.reduceMul, Nat.reduceEqDiff, Int.reduceAdd, Int.reduceNeg, Int.reduceToNat, Int.reduceLE, Int.reduceNatCast, Int.reduceSub, Int.reduceLT, Int.reduceEq, List.replicate_zero, List.replicate_succ, Int.reduceNatCast', Int32.reduceOfInt, Int32.reduceLT, Int32.reduceLE, Int32.reduceAdd, Int32.reduceSub, Int32.reduceMul, Int32.reduceToInt, Int32.reduceToNatClampNeg]
    exact hT
  | [.ref 0, .int i, .int dp, .ref 7, .int col], hT =>
    replace hT : rdC h (fun c r => zT_open cI 7 i dp col h K c r c.2.2.2.2.2.1) := hT
    obtain ⟨⟨⟨dt, dw, lg, cb⟩, ⟨rm, fx, fy, fw, fh, ct⟩, ⟨N, co, de, sn⟩, ⟨sa, sb, sd, se⟩, ⟨a0, a1, a2, a3, a4, a5, a6⟩, ⟨b0, b1, b2, b3, b4, b5, b6⟩, ⟨e0, e1, e2, e3, e4, e5, e6⟩, an⟩, r, rfl, hv, hT⟩ := rdC_s hT
    simp only [f_open, f_hit, zip, Classical.not_not] at hT
    simp only [hC, hR, c_sn, c_de, c_co, f_chg, f_col] at hT
    refine ⟨by simp [Value.category], by simp, fun Jd hc => zw_sound (J := fun _ => none) hc (fun _ _ z => by cases z) 100 0 _ _ _ _ _ _ ?_⟩
    simp (maxSteps := 4000000) only [hv, zlc, zif0, zf3, D_PT_drawOpen_0, D_PT_drawOpen_1, G_PT_k, E_PT_drawOpen_k, T_ST_allows, T_ST_changed, T_PT_compares, T_PT_newColour, T_PT_merged, hC, hR, Classical.not_not, zw_S, zk_iconst, zk_bipush, zk_sipush, zk_ldc, zk_ldc_w, zk_aconst_null, zk_iload_n, zk_iload, zk_aload_n, zk_aload, zk_istore_n, zk_istore, zk_astore_n, zk_astore, zk_iinc, zk_iadd, zk_isub, zk_imul, zk_idiv, zk_iand, zk_ior, zk_ixor, zk_ishl, zk_ishr, zk_iushr, zk_i2l, zk_lcmp, zk_dup, zk_pop, zk_dup_x1, zk_dup2, zk_dup_x2, zk_goto, zk_ifCond, zk_if_icmp, zk_tableswitch, zk_getfield, zk_putfield, zk_iaload, zk_iastore, zk_laload, zk_lastore, zk_arraylength, zk_invokestatic, zk_invokevirtual, zk_invokespecial, zk_new, zk_newarray, zk_ireturn, zk_areturn, zk_return_, zi1_k, zi2_k, zr1_k, zri_k, zrii_k, zril_k, zvr_k, zl2_k, zv1_k, zv2_k, zv3_k, zli_k, zlr_k, zob_k, zai_k, zal_k, zfv_k, zlim_k, zlrm_k, zobm_k, zaim_k, zalm_k, zfvm_k, zgetf_k, zput_k, zcal_k, zrv_n, zrv_s, zswT_n, zswT_c, zgo_k, zcc_eq, zcc_ne, zcc_lt, zcc_ge, zcc_gt, zcc_le, zldj_k, zexc_k, znew_k, zial_k, zct_i, zct_l, zct_r, zct_n, zKK_r, zKK_x, znr_i, znr_0, znr_1, znr_v, znr_a, znr_o, znar_i, znar_r, znar_a, zfit_i, zfit_r, zfit_a, zbc, zlit, eq_self, List.getElem?_cons_zero, List.getElem?_cons_succ, List.set_cons_zero, List.set_cons_succ, List.take_succ_cons, List.take_zero, List.drop_succ_cons, List.drop_zero, List.reverse_cons, List.reverse_nil, List.nil_append, List.cons_append, List.append_nil, List.length_cons, List.length_nil, List.map_cons, List.map_nil, List.sum_cons, List.sum_nil, Option.toList_some, Option.toList_none, Nat.zero_add, Nat.add_zero, Bool.or_false, Bool.false_or, Bool.or_true, Bool.true_or, Bool.not_true, Bool.not_false, ge_iff_le, Fin.isValue, Fin.val_zero, Fin.val_one, Fin.val_two, true_and, and_true, true_implies, false_implies, forall_const, if_true, if_false, ite_true, ite_false, reduceIte, reduceCtorEq, true_or, or_true, and_self, implies_true, not_false_eq_true, not_true_eq_false, Nat.le_refl, Nat.zero_le, and_false, false_and, Nat.reduceAdd, Nat.reduceSub, Nat.reduceLT, Nat.reduceLeDiff, Nat.reduceMul, Nat.reduceEqDiff, Int.reduceAdd, Int.reduceNeg, Int.reduceToNat, Int.reduceLE, Int.reduceNatCast, Int.reduceSub, Int.reduceLT, Int.reduceEq, List.replicate_zero, List.replicate_succ, Int.reduceNatCast', Int32.reduceOfInt, Int32.reduceLT, Int32.reduceLE, Int32.reduceAdd, Int32.reduceSub, Int32.reduceMul, Int32.reduceToInt, Int32.reduceToNatClampNeg]
    exact hT
end
section
theorem zvp : (vp_in 0 4 = True) ∧ (vp_in 1 4 = True) ∧ (vp_in 2 4 = True) ∧ (vp_in 3 4 = True) := ⟨eq_true (vp_le 0 (by decide) (by decide) (by decide)), eq_true (vp_le 1 (by decide) (by decide) (by decide)), eq_true (vp_le 2 (by decide) (by decide) (by decide)), eq_true (vp_le 3 (by decide) (by decide) (by decide))⟩
def f_PT_draw (c : cSt) (x y dp sd0 r0 g0 b00 a00 : Int32) : zO × cSt := match c with
  | ((dt, dw, lg, cb), (rm, fx, fy, fw, fh, ct), (N, co, de, sn), (sa, sb, sd, se), (a0, a1, a2, a3, a4, a5, a6), (b0, b1, b2, b3, b4, b5, b6), (e0, e1, e2, e3, e4, e5, e6), an) => if (0 ≤ dp ∧ dp ≤ 16777215) then (if (0 ≤ sd0 ∧ sd0 ≤ 1) then (if f_has fx fy fw fh x y = 0 then (.inl (some (.int 0)), c_an ((dt, dw, lg, cb), (rm, fx, fy, fw, fh, ct), (N, co, de, sn), (sa, sb, sd, se), (a0, a1, a2, a3, a4, a5, a6), (b0, b1, b2, b3, b4, b5, b6), (e0, e1, e2, e3, e4, e5, e6), an) 0) else if f_hold sa sb sd se x y = 0 then (.inl (some (.int 0)), c_an ((dt, dw, lg, cb), (rm, fx, fy, fw, fh, ct), (N, co, de, sn), (sa, sb, sd, se), (a0, a1, a2, a3, a4, a5, a6), (b0, b1, b2, b3, b4, b5, b6), (e0, e1, e2, e3, e4, e5, e6), an) 0) else (if sd0 = 0 then (f_open (fun k v c' => ((.inl (some (.int v)), c_an c' k) : zO × cSt)) ((dt, dw, lg, cb), (rm, fx, fy, fw, fh, ct), (N, co, de, sn), (sa, sb, sd, se), (a0, a1, a2, a3, a4, a5, a6), (b0, b1, b2, b3, b4, b5, b6), (e0, e1, e2, e3, e4, e5, e6), an) (a0, a1, a2, a3, a4, a5, a6) (f_idx fx fy fw x y).toNatClampNeg dp (f_pk (f_by r0) (f_by g0) (f_by b00) (f_by a00))) else (f_open (fun k v c' => ((.inl (some (.int v)), c_an c' k) : zO × cSt)) ((dt, dw, lg, cb), (rm, fx, fy, fw, fh, ct), (N, co, de, sn), (sa, sb, sd, se), (a0, a1, a2, a3, a4, a5, a6), (b0, b1, b2, b3, b4, b5, b6), (e0, e1, e2, e3, e4, e5, e6), an) (b0, b1, b2, b3, b4, b5, b6) (f_idx fx fy fw x y).toNatClampNeg dp (f_pk (f_by r0) (f_by g0) (f_by b00) (f_by a00))))) else (.inr 6, ((dt, dw, lg, cb), (rm, fx, fy, fw, fh, ct), (N, co, de, sn), (sa, sb, sd, se), (a0, a1, a2, a3, a4, a5, a6), (b0, b1, b2, b3, b4, b5, b6), (e0, e1, e2, e3, e4, e5, e6), an))) else (.inr 6, ((dt, dw, lg, cb), (rm, fx, fy, fw, fh, ct), (N, co, de, sn), (sa, sb, sd, se), (a0, a1, a2, a3, a4, a5, a6), (b0, b1, b2, b3, b4, b5, b6), (e0, e1, e2, e3, e4, e5, e6), an))
def T_PT_draw : ClassId → ClassId → zT := fun cI _ as h K => ∃ (c : cSt) (r : zH) (x y dp sd0 r0 g0 b00 a00 : Int32), as = [.ref 0, .int x, .int y, .int dp, .int sd0, .int r0, .int g0, .int b00, .int a00] ∧ h = hC cI c r ∧ cIn c x y ∧ K (f_PT_draw c x y dp sd0 r0 g0 b00 a00).1 (hC cI (f_PT_draw c x y dp sd0 r0 g0 b00 a00).2 r)
def E_PT_draw : ClassId → ClassId → Nat → Nat → Option zEn := fun cI cL kd i => match kd, i with
  | 0, 175 => some (1, none, true, true, 0, 0, T_PT_isDepth cI cL)
  | 0, 94 => some (1, none, true, true, 0, 0, T_PT_isSide cI cL)
  | 1, 202 => some (3, some 1, true, true, 0, 0, T_FR_has cI cL)
  | 1, 190 => some (3, some 2, true, true, 0, 0, T_SC_hold cI cL)
  | 1, 194 => some (3, some 1, true, true, 0, 0, T_FR_indexOf cI cL)
  | 1, 100 => some (2, some 0, true, true, 0, 0, T_PT_ruleOf cI cL)
  | 0, 205 => some (4, none, true, true, 0, 0, T_CO_ofFixed cI cL)
  | 1, 209 => some (5, some 0, true, false, 0, 0, T_PT_drawOpen cI cL)
  | _, _ => none
theorem E_PT_draw_k : (∀ cI cL, E_PT_draw cI cL 0 175 = some (1, none, true, true, 0, 0, T_PT_isDepth cI cL)) ∧ (∀ cI cL, E_PT_draw cI cL 0 94 = some (1, none, true, true, 0, 0, T_PT_isSide cI cL)) ∧ (∀ cI cL, E_PT_draw cI cL 1 202 = some (3, some 1, true, true, 0, 0, T_FR_has cI cL)) ∧ (∀ cI cL, E_PT_draw cI cL 1 190 = some (3, some 2, true, true, 0, 0, T_SC_hold cI cL)) ∧ (∀ cI cL, E_PT_draw cI cL 1 194 = some (3, some 1, true, true, 0, 0, T_FR_indexOf cI cL)) ∧ (∀ cI cL, E_PT_draw cI cL 1 100 = some (2, some 0, true, true, 0, 0, T_PT_ruleOf cI cL)) ∧ (∀ cI cL, E_PT_draw cI cL 0 205 = some (4, none, true, true, 0, 0, T_CO_ofFixed cI cL)) ∧ (∀ cI cL, E_PT_draw cI cL 1 209 = some (5, some 0, true, false, 0, 0, T_PT_drawOpen cI cL)) := ⟨fun _ _ => rfl, fun _ _ => rfl, fun _ _ => rfl, fun _ _ => rfl, fun _ _ => rfl, fun _ _ => rfl, fun _ _ => rfl, fun _ _ => rfl⟩
set_option maxHeartbeats 4000000 in
set_option maxRecDepth 100000 in
theorem C_PT_draw {l : Launch} (hl : l.stackTraces = false) : zC l y_PT_draw (Cond.code y_PT_draw prog_1_method_11_code 10 (some .int) :: wsG) (rmL 7 1 6) zcl false 1 6 T_PT_draw := by
  refine zC_of (G := G_PT) (E := E_PT_draw) (X := X_PT) (SL := SL_PT) (NW := zNn) (CS := CS_PT) (ctor := false) hl (by decide) rfl rfl rfl G_PT_ok (fun z => by cases z) CS_PT_ok (fun _ _ _ _ z => by cases z) (List.mem_cons_of_mem _ ka_i) (fun i ci ic z => ⟨X_PT_ok i ci ic z, by decide, by decide⟩) SL_PT_ok (by
    intro p e s m args below meth c D A cI cL hx hb hml hown hts hK hA hEX kd idx en hE
    unfold E_PT_draw at hE
    split at hE
    · cases hE; exact zRow_S (C_PT_isDepth hl) rfl (Or.inl ⟨_, _, rfl⟩) hx hb hml hown hts hK hA hEX (hin_c kb_PT_isDepth) (List.mem_cons_of_mem _ kn_PT) (List.mem_cons_of_mem _ ks_PT_isDepth) (Or.inl (List.mem_cons_of_mem _ km_PT_175)) (by decide) (by decide) (by decide) rfl rfl
    · cases hE; exact zRow_S (C_PT_isSide hl) rfl (Or.inl ⟨_, _, rfl⟩) hx hb hml hown hts hK hA hEX (hin_c kb_PT_isSide) (List.mem_cons_of_mem _ kn_PT) (List.mem_cons_of_mem _ ks_PT_isSide) (Or.inl (List.mem_cons_of_mem _ km_PT_94)) (by decide) (by decide) (by decide) rfl rfl
    · cases hE; exact zRow_V (C_FR_has hl) rfl (Or.inl ⟨_, _, rfl⟩) hx hb hml hown hts hK hA hEX (hin_c kb_FR_has) (List.mem_cons_of_mem _ kn_FR) (List.mem_cons_of_mem _ ki_FR_has) (List.mem_cons_of_mem _ kv_FR_has) rfl (Or.inr ⟨_, List.mem_cons_of_mem _ km_PT_202⟩) (by decide) (by decide) (by decide) rfl rfl
    · cases hE; exact zRow_V (C_SC_hold hl) rfl (Or.inl ⟨_, _, rfl⟩) hx hb hml hown hts hK hA hEX (hin_c kb_SC_hold) (List.mem_cons_of_mem _ kn_SC) (List.mem_cons_of_mem _ ki_SC_hold) (List.mem_cons_of_mem _ kv_SC_hold) rfl (Or.inr ⟨_, List.mem_cons_of_mem _ km_PT_190⟩) (by decide) (by decide) (by decide) rfl rfl
    · cases hE; exact zRow_V (C_FR_indexOf hl) rfl (Or.inl ⟨_, _, rfl⟩) hx hb hml hown hts hK hA hEX (hin_c kb_FR_indexOf) (List.mem_cons_of_mem _ kn_FR) (List.mem_cons_of_mem _ ki_FR_indexOf) (List.mem_cons_of_mem _ kv_FR_indexOf) rfl (Or.inr ⟨_, List.mem_cons_of_mem _ km_PT_194⟩) (by decide) (by decide) (by decide) rfl rfl
    · cases hE; exact zRow_V (C_PT_ruleOf hl) rfl (Or.inl ⟨_, _, rfl⟩) hx hb hml hown hts hK hA hEX (hin_c kb_PT_ruleOf) (List.mem_cons_of_mem _ kn_PT) (List.mem_cons_of_mem _ ki_PT_ruleOf) (List.mem_cons_of_mem _ kv_PT_ruleOf) rfl (Or.inl (List.mem_cons_of_mem _ km_PT_100)) (by decide) (by decide) (by decide) rfl rfl
    · cases hE; exact zRow_S (C_CO_ofFixed hl) rfl (Or.inl ⟨_, _, rfl⟩) hx hb hml hown hts hK hA hEX (hin_c kb_CO_ofFixed) (List.mem_cons_of_mem _ kn_CO) (List.mem_cons_of_mem _ ks_CO_ofFixed) (Or.inr ⟨_, List.mem_cons_of_mem _ km_PT_205⟩) (by decide) (by decide) (by decide) rfl rfl
    · cases hE; exact zRow_V (C_PT_drawOpen hl) rfl (Or.inl ⟨_, _, rfl⟩) hx hb hml hown hts hK hA hEX (hin_c kb_PT_drawOpen) (List.mem_cons_of_mem _ kn_PT) (List.mem_cons_of_mem _ ki_PT_drawOpen) (List.mem_cons_of_mem _ kv_PT_drawOpen) rfl (Or.inl (List.mem_cons_of_mem _ km_PT_209)) (by decide) (by decide) (by decide) rfl rfl
    · cases hE) ?_
  intro cI cL as h K hT
  obtain ⟨⟨⟨dt, dw, lg, cb⟩, ⟨rm, fx, fy, fw, fh, ct⟩, ⟨N, co, de, sn⟩, ⟨sa, sb, sd, se⟩, ⟨a0, a1, a2, a3, a4, a5, a6⟩, ⟨b0, b1, b2, b3, b4, b5, b6⟩, ⟨e0, e1, e2, e3, e4, e5, e6⟩, an⟩, r, x, y, dp, sd0, r0, g0, b00, a00, rfl, rfl, hp, hT⟩ := hT
  have hv : ¬ f_has fx fy fw fh x y = 0 → vp_in (f_idx fx fy fw x y) N := hp
  refine ⟨by simp [Value.category], by simp, fun Jd hc => zw_sound (J := fun _ => none) hc (fun _ _ z => by cases z) 70 0 _ _ _ _ _ _ ?_⟩
  simp only [f_PT_draw, f_open, f_hit, zKp K (fun c => hC cI c r), Classical.not_not] at hT
  simp only [hC, hR, c_sn, c_de, c_co, c_an, f_chg, f_col] at hT
  by_cases hh : f_has fx fy fw fh x y = 0
  · simp (maxSteps := 4000000) only [hh, zlc, zif0, zf3, D_PT_draw, G_PT_k, E_PT_draw_k, T_PT_isDepth, f_wi_0, znr_wi, T_PT_isSide, T_FR_has, T_SC_hold, T_FR_indexOf, T_PT_ruleOf, T_CO_ofFixed, T_PT_drawOpen, rdC_k, zT_open, f_open, f_hit, zip, hC, hR, c_sn, c_de, c_co, f_chg, f_col, CS_PT_k, N_PT_k, zvp, Classical.not_not, zw_S, zk_iconst, zk_bipush, zk_sipush, zk_ldc, zk_ldc_w, zk_aconst_null, zk_iload_n, zk_iload, zk_aload_n, zk_aload, zk_istore_n, zk_istore, zk_astore_n, zk_astore, zk_iinc, zk_iadd, zk_isub, zk_imul, zk_idiv, zk_iand, zk_ior, zk_ixor, zk_ishl, zk_ishr, zk_iushr, zk_i2l, zk_lcmp, zk_dup, zk_pop, zk_dup_x1, zk_dup2, zk_dup_x2, zk_goto, zk_ifCond, zk_if_icmp, zk_tableswitch, zk_getfield, zk_putfield, zk_iaload, zk_iastore, zk_laload, zk_lastore, zk_arraylength, zk_invokestatic, zk_invokevirtual, zk_invokespecial, zk_new, zk_newarray, zk_ireturn, zk_areturn, zk_return_, zi1_k, zi2_k, zr1_k, zri_k, zrii_k, zril_k, zvr_k, zl2_k, zv1_k, zv2_k, zv3_k, zli_k, zlr_k, zob_k, zai_k, zal_k, zfv_k, zlim_k, zlrm_k, zobm_k, zaim_k, zalm_k, zfvm_k, zgetf_k, zput_k, zcal_k, zrv_n, zrv_s, zswT_n, zswT_c, zgo_k, zcc_eq, zcc_ne, zcc_lt, zcc_ge, zcc_gt, zcc_le, zldj_k, zexc_k, znew_k, zial_k, zct_i, zct_l, zct_r, zct_n, zKK_r, zKK_x, znr_i, znr_0, znr_1, znr_v, znr_a, znr_o, znar_i, znar_r, znar_a, zfit_i, zfit_r, zfit_a, zbc, zlit, eq_self, List.getElem?_cons_zero, List.getElem?_cons_succ, List.set_cons_zero, List.set_cons_succ, List.take_succ_cons, List.take_zero, List.drop_succ_cons, List.drop_zero, List.reverse_cons, List.reverse_nil, List.nil_append, List.cons_append, List.append_nil, List.length_cons, List.length_nil, List.map_cons, List.map_nil, List.sum_cons, List.sum_nil, Option.toList_some, Option.toList_none, Nat.zero_add, Nat.add_zero, Bool.or_false, Bool.false_or, Bool.or_true, Bool.true_or, Bool.not_true, Bool.not_false, ge_iff_le, Fin.isValue, Fin.val_zero, Fin.val_one, Fin.val_two, true_and, and_true, true_implies, false_implies, forall_const, if_true, if_false, ite_true, ite_false, reduceIte, reduceCtorEq, true_or, or_true, and_self, implies_true, not_false_eq_true, not_true_eq_false, Nat.le_refl, Nat.zero_le, and_false, false_and, Nat.reduceAdd, Nat.reduceSub, Nat.reduceLT, Nat.reduceLeDiff, Nat.reduceMul, Nat.reduceEqDiff, Int.reduceAdd, Int.reduceNeg, Int.reduceToNat, Int.reduceLE, Int.reduceNatCast, Int.reduceSub, Int.reduceLT, Int.reduceEq, List.replicate_zero, List.replicate_succ, Int.reduceNatCast', Int32.reduceOfInt, Int32.reduceLT, Int32.reduceLE, Int32.reduceAdd, Int32.reduceSub, Int32.reduceMul, Int32.reduceToInt, Int32.reduceToNatClampNeg]
    simp only [hh, not_true_eq_false, false_implies, true_and, and_true, true_implies, forall_const] at hT
    exact hT
  · have hv := hv hh
    simp (maxSteps := 4000000) only [hh, hv, zlc, zif0, zf3, D_PT_draw, G_PT_k, E_PT_draw_k, T_PT_isDepth, f_wi_0, znr_wi, T_PT_isSide, T_FR_has, T_SC_hold, T_FR_indexOf, T_PT_ruleOf, T_CO_ofFixed, T_PT_drawOpen, rdC_k, zT_open, f_open, f_hit, zip, hC, hR, c_sn, c_de, c_co, f_chg, f_col, CS_PT_k, N_PT_k, zvp, Classical.not_not, zw_S, zk_iconst, zk_bipush, zk_sipush, zk_ldc, zk_ldc_w, zk_aconst_null, zk_iload_n, zk_iload, zk_aload_n, zk_aload, zk_istore_n, zk_istore, zk_astore_n, zk_astore, zk_iinc, zk_iadd, zk_isub, zk_imul, zk_idiv, zk_iand, zk_ior, zk_ixor, zk_ishl, zk_ishr, zk_iushr, zk_i2l, zk_lcmp, zk_dup, zk_pop, zk_dup_x1, zk_dup2, zk_dup_x2, zk_goto, zk_ifCond, zk_if_icmp, zk_tableswitch, zk_getfield, zk_putfield, zk_iaload, zk_iastore, zk_laload, zk_lastore, zk_arraylength, zk_invokestatic, zk_invokevirtual, zk_invokespecial, zk_new, zk_newarray, zk_ireturn, zk_areturn, zk_return_, zi1_k, zi2_k, zr1_k, zri_k, zrii_k, zril_k, zvr_k, zl2_k, zv1_k, zv2_k, zv3_k, zli_k, zlr_k, zob_k, zai_k, zal_k, zfv_k, zlim_k, zlrm_k, zobm_k, zaim_k, zalm_k, zfvm_k, zgetf_k, zput_k, zcal_k, zrv_n, zrv_s, zswT_n, zswT_c, zgo_k, zcc_eq, zcc_ne, zcc_lt, zcc_ge, zcc_gt, zcc_le, zldj_k, zexc_k, znew_k, zial_k, zct_i, zct_l, zct_r, zct_n, zKK_r, zKK_x, znr_i, znr_0, znr_1, znr_v, znr_a, znr_o, znar_i, znar_r, znar_a, zfit_i, zfit_r, zfit_a, zbc, zlit, eq_self, List.getElem?_cons_zero, List.getElem?_cons_succ, List.set_cons_zero, List.set_cons_succ, List.take_succ_cons, List.take_zero, List.drop_succ_cons, List.drop_zero, List.reverse_cons, List.reverse_nil, List.nil_append, List.cons_append, List.append_nil, List.length_cons, List.length_nil, List.map_cons, List.map_nil, List.sum_cons, List.sum_nil, Option.toList_some, Option.toList_none, Nat.zero_add, Nat.add_zero, Bool.or_false, Bool.false_or, Bool.or_true, Bool.true_or, Bool.not_true, Bool.not_false, ge_iff_le, Fin.isValue, Fin.val_zero, Fin.val_one, Fin.val_two, true_and, and_true, true_implies, false_implies, forall_const, if_true, if_false, ite_true, ite_false, reduceIte, reduceCtorEq, true_or, or_true, and_self, implies_true, not_false_eq_true, not_true_eq_false, Nat.le_refl, Nat.zero_le, and_false, false_and, Nat.reduceAdd, Nat.reduceSub, Nat.reduceLT, Nat.reduceLeDiff, Nat.reduceMul, Nat.reduceEqDiff, Int.reduceAdd, Int.reduceNeg, Int.reduceToNat, Int.reduceLE, Int.reduceNatCast, Int.reduceSub, Int.reduceLT, Int.reduceEq, List.replicate_zero, List.replicate_succ, Int.reduceNatCast', Int32.reduceOfInt, Int32.reduceLT, Int32.reduceLE, Int32.reduceAdd, Int32.reduceSub, Int32.reduceMul, Int32.reduceToInt, Int32.reduceToNatClampNeg]
    simp only [hh, not_false_eq_true, false_implies, true_and, and_true, true_implies, forall_const] at hT
    exact hT
end
section
/-- a loop's head: one step, then on until the head comes again -/
theorem z_at {cc : ByteArray} {G : Nat → Option (Nat × Nat × FieldType × Bool)} {E : Nat → Nat → Option zEn} {X : Nat → Option (Nat × Nat)} {SL : Nat → Bool} {NW : Nat → Option (Nat × Nat × List Value)} {CS : Nat → Option Int32} {HD : Nat → Nat → Option Nat} {sc : Option (Nat × (Nat → Int32))} {cI cL : ClassId} {RC RS : Nat} {ctor : Bool} {KK : zO → zH → Bool → Nat → Nat → Prop} {Jd : zRc}
    (hst : zCl cc G E X SL NW CS HD sc cI cL RC RS ctor KK Jd) (hd n : Nat) {lc : zLc} {st : List Value} {h : zH} {wr : Bool} {k q : Nat}
    (hw : zwI cc G E X SL NW CS HD sc cI cL RC RS ctor KK (zw cc G E X SL NW CS HD sc cI cL RC RS ctor KK (fun p => if p = hd then some (Jd hd) else none) n) (decode cc hd) hd lc st h wr k q) : Jd hd lc st h wr k q :=
  hst _ (zw_sound hst (fun pc I hI => by
    by_cases e : pc = hd
    · subst e
      rw [if_pos rfl] at hI
      cases hI
      exact fun _ _ _ _ _ _ h => h
    · rw [if_neg e] at hI
      cases hI) n) hd lc st h wr k q hw
/-- .. and the way to it -/
theorem z_to {cc : ByteArray} {G : Nat → Option (Nat × Nat × FieldType × Bool)} {E : Nat → Nat → Option zEn} {X : Nat → Option (Nat × Nat)} {SL : Nat → Bool} {NW : Nat → Option (Nat × Nat × List Value)} {CS : Nat → Option Int32} {HD : Nat → Nat → Option Nat} {sc : Option (Nat × (Nat → Int32))} {cI cL : ClassId} {RC RS : Nat} {ctor : Bool} {KK : zO → zH → Bool → Nat → Nat → Prop} {Jd : zRc}
    (hst : zCl cc G E X SL NW CS HD sc cI cL RC RS ctor KK Jd) (hd n : Nat) {pc : Nat} {lc : zLc} {st : List Value} {h : zH} {wr : Bool} {k q : Nat}
    (hw : zw cc G E X SL NW CS HD sc cI cL RC RS ctor KK (fun p => if p = hd then some (Jd hd) else none) n pc lc st h wr k q) : Jd pc lc st h wr k q :=
  zw_sound hst (fun pc I hI => by
    by_cases e : pc = hd
    · subst e
      rw [if_pos rfl] at hI
      cases hI
      exact fun _ _ _ _ _ _ h => h
    · rw [if_neg e] at hI
      cases hI) n pc lc st h wr k q hw
theorem zw_J2 (cc : ByteArray) (G : Nat → Option (Nat × Nat × FieldType × Bool)) (E : Nat → Nat → Option zEn) (X : Nat → Option (Nat × Nat)) (SL : Nat → Bool) (NW : Nat → Option (Nat × Nat × List Value)) (CS : Nat → Option Int32) (HD : Nat → Nat → Option Nat) (sc : Option (Nat × (Nat → Int32))) (cI cL : ClassId) (RC RS : Nat) (ctor : Bool) (KK : zO → zH → Bool → Nat → Nat → Prop) (hd hd2 : Nat) (I I2 : zLc → List Value → zH → Bool → Nat → Nat → Prop) (n pc : Nat) (lc : zLc) (st : List Value) (h : zH) (wr : Bool) (k q : Nat) : zw cc G E X SL NW CS HD sc cI cL RC RS ctor KK (fun p => if p = hd then some I else if p = hd2 then some I2 else none) (n + 1) pc lc st h wr k q = if pc = hd then I lc st h wr k q else if pc = hd2 then I2 lc st h wr k q else zwI cc G E X SL NW CS HD sc cI cL RC RS ctor KK (zw cc G E X SL NW CS HD sc cI cL RC RS ctor KK (fun p => if p = hd then some I else if p = hd2 then some I2 else none) n) (decode cc pc) pc lc st h wr k q := by
  by_cases e : pc = hd
  · simp only [zw, if_pos e]
  · by_cases e2 : pc = hd2
    · simp only [zw, if_neg e, if_pos e2]
    · simp only [zw, if_neg e, if_neg e2]
theorem z_J2 {Jd : zRc} {hd hd2 : Nat} : ∀ pc I, (fun p => if p = hd then some (Jd hd) else if p = hd2 then some (Jd hd2) else none) pc = some I → ∀ lc st h wr k q, I lc st h wr k q → Jd pc lc st h wr k q := by
  intro pc I hI
  dsimp only at hI
  by_cases e : pc = hd
  · subst e
    rw [if_pos rfl] at hI
    cases hI
    exact fun _ _ _ _ _ _ h => h
  · rw [if_neg e] at hI
    by_cases e2 : pc = hd2
    · subst e2
      rw [if_pos rfl] at hI
      cases hI
      exact fun _ _ _ _ _ _ h => h
    · rw [if_neg e2] at hI
      cases hI
theorem z_at2 {cc : ByteArray} {G : Nat → Option (Nat × Nat × FieldType × Bool)} {E : Nat → Nat → Option zEn} {X : Nat → Option (Nat × Nat)} {SL : Nat → Bool} {NW : Nat → Option (Nat × Nat × List Value)} {CS : Nat → Option Int32} {HD : Nat → Nat → Option Nat} {sc : Option (Nat × (Nat → Int32))} {cI cL : ClassId} {RC RS : Nat} {ctor : Bool} {KK : zO → zH → Bool → Nat → Nat → Prop} {Jd : zRc}
    (hst : zCl cc G E X SL NW CS HD sc cI cL RC RS ctor KK Jd) (hd hd2 n : Nat) {pc : Nat} {lc : zLc} {st : List Value} {h : zH} {wr : Bool} {k q : Nat}
    (hw : zwI cc G E X SL NW CS HD sc cI cL RC RS ctor KK (zw cc G E X SL NW CS HD sc cI cL RC RS ctor KK (fun p => if p = hd then some (Jd hd) else if p = hd2 then some (Jd hd2) else none) n) (decode cc pc) pc lc st h wr k q) : Jd pc lc st h wr k q :=
  hst _ (zw_sound hst z_J2 n) pc lc st h wr k q hw
def sumF (g : Nat → Int32) : Nat → Int32
  | 0 => 0
  | n + 1 => 31 * sumF g n + g n
def cCt (c : cSt) : Prop := match c with
  | (_, (_, _, _, _, _, ct), (N, _, _, _), _) => ∃ n : Nat, n ≤ N ∧ N ≤ 4096 ∧ ct = nI n
def f_PT_sum (c : cSt) (w : Int32) : zO × cSt := match c with
  | ((dt, dw, lg, cb), (rm, fx, fy, fw, fh, ct), (N, co, de, sn), (sa, sb, sd, se), (a0, a1, a2, a3, a4, a5, a6), (b0, b1, b2, b3, b4, b5, b6), (e0, e1, e2, e3, e4, e5, e6), an) => if (0 ≤ w ∧ w ≤ 2) then (if w = 0 then (.inl (some (.int (sumF co ct.toNatClampNeg))), ((dt, dw, lg, cb), (rm, fx, fy, fw, fh, ct), (N, co, de, sn), (sa, sb, sd, se), (a0, a1, a2, a3, a4, a5, a6), (b0, b1, b2, b3, b4, b5, b6), (e0, e1, e2, e3, e4, e5, e6), an)) else if w = 1 then (.inl (some (.int (sumF de ct.toNatClampNeg))), ((dt, dw, lg, cb), (rm, fx, fy, fw, fh, ct), (N, co, de, sn), (sa, sb, sd, se), (a0, a1, a2, a3, a4, a5, a6), (b0, b1, b2, b3, b4, b5, b6), (e0, e1, e2, e3, e4, e5, e6), an)) else (.inl (some (.int (sumF sn ct.toNatClampNeg))), ((dt, dw, lg, cb), (rm, fx, fy, fw, fh, ct), (N, co, de, sn), (sa, sb, sd, se), (a0, a1, a2, a3, a4, a5, a6), (b0, b1, b2, b3, b4, b5, b6), (e0, e1, e2, e3, e4, e5, e6), an))) else (.inr 6, ((dt, dw, lg, cb), (rm, fx, fy, fw, fh, ct), (N, co, de, sn), (sa, sb, sd, se), (a0, a1, a2, a3, a4, a5, a6), (b0, b1, b2, b3, b4, b5, b6), (e0, e1, e2, e3, e4, e5, e6), an))
def T_PT_sum : ClassId → ClassId → zT := fun cI _ as h K => ∃ (c : cSt) (r : zH) (w : Int32), as = [.ref 0, .int w] ∧ h = hC cI c r ∧ cCt c ∧ K (f_PT_sum c w).1 (hC cI (f_PT_sum c w).2 r)
def E_PT_sum : ClassId → ClassId → Nat → Nat → Option zEn := fun cI cL kd i => match kd, i with
  | 0, 60 => some (3, none, true, true, 0, 0, T_PT_isWithin cI cL)
  | 1, 220 => some (2, some 1, true, true, 0, 0, T_FR_rowsOf cI cL)
  | _, _ => none
theorem E_PT_sum_k : (∀ cI cL, E_PT_sum cI cL 0 60 = some (3, none, true, true, 0, 0, T_PT_isWithin cI cL)) ∧ (∀ cI cL, E_PT_sum cI cL 1 220 = some (2, some 1, true, true, 0, 0, T_FR_rowsOf cI cL)) := ⟨fun _ _ => rfl, fun _ _ => rfl⟩
set_option maxHeartbeats 4000000 in
set_option maxRecDepth 100000 in
theorem C_PT_sum {l : Launch} (hl : l.stackTraces = false) : zC l y_PT_sum (Cond.code y_PT_sum prog_1_method_14_code 5 (some .int) :: wsG) (rmL 7 1 6) zcl true 1 6 T_PT_sum := by
  refine zC_of (G := G_PT) (E := E_PT_sum) (X := X_PT) (SL := SL_PT) (NW := zNn) (CS := CS_PT) (ctor := false) hl (by decide) rfl rfl rfl G_PT_ok (fun z => by cases z) CS_PT_ok (fun _ _ _ _ z => by cases z) (List.mem_cons_of_mem _ ka_i) (fun i ci ic z => ⟨X_PT_ok i ci ic z, by decide, by decide⟩) SL_PT_ok (by
    intro p e s m args below meth c D A cI cL hx hb hml hown hts hK hA hEX kd idx en hE
    unfold E_PT_sum at hE
    split at hE
    · cases hE; exact zRow_S (C_PT_isWithin hl) rfl (Or.inl ⟨_, _, rfl⟩) hx hb hml hown hts hK hA hEX (hin_c kb_PT_isWithin) (List.mem_cons_of_mem _ kn_PT) (List.mem_cons_of_mem _ ks_PT_isWithin) (Or.inl (List.mem_cons_of_mem _ km_PT_60)) (by decide) (by decide) (by decide) rfl rfl
    · cases hE; exact zRow_V (C_FR_rowsOf hl) rfl (Or.inl ⟨_, _, rfl⟩) hx hb hml hown hts hK hA hEX (hin_c kb_FR_rowsOf) (List.mem_cons_of_mem _ kn_FR) (List.mem_cons_of_mem _ ki_FR_rowsOf) (List.mem_cons_of_mem _ kv_FR_rowsOf) rfl (Or.inr ⟨_, List.mem_cons_of_mem _ km_PT_220⟩) (by decide) (by decide) (by decide) rfl rfl
    · cases hE) ?_
  intro cI cL as h K hT
  obtain ⟨⟨⟨dt, dw, lg, cb⟩, ⟨rm, fx, fy, fw, fh, ct⟩, ⟨N, co, de, sn⟩, ⟨sa, sb, sd, se⟩, ⟨a0, a1, a2, a3, a4, a5, a6⟩, ⟨b0, b1, b2, b3, b4, b5, b6⟩, ⟨e0, e1, e2, e3, e4, e5, e6⟩, an⟩, r, w, rfl, rfl, hp, hT⟩ := hT
  obtain ⟨n, hn, hN, rfl⟩ : ∃ n : Nat, n ≤ N ∧ N ≤ 4096 ∧ ct = nI n := hp
  refine ⟨by simp [Value.category], by simp, fun Jd hc => ?_⟩
  simp only [f_PT_sum, zKp K (fun c => hC cI c r), Classical.not_not, nI_clamp (show n < 2 ^ 31 by omega)] at hT
  have loop : ∀ (g : Nat → Int32) (ρ : Nat), (ρ = 2 ∧ g = co ∨ ρ = 3 ∧ g = de ∨ ρ = 4 ∧ g = sn) → K (.inl (some (.int (sumF g n)))) (hC cI ((dt, dw, lg, cb), (rm, fx, fy, fw, fh, nI n), (N, co, de, sn), (sa, sb, sd, se), (a0, a1, a2, a3, a4, a5, a6), (b0, b1, b2, b3, b4, b5, b6), (e0, e1, e2, e3, e4, e5, e6), an) r) → ∀ m i, m + i = n → Jd 33 [some (.ref 0), some (.int w), some (.ref ρ), some (.int (sumF g i)), some (.int (nI i))] [] (hC cI ((dt, dw, lg, cb), (rm, fx, fy, fw, fh, nI n), (N, co, de, sn), (sa, sb, sd, se), (a0, a1, a2, a3, a4, a5, a6), (b0, b1, b2, b3, b4, b5, b6), (e0, e1, e2, e3, e4, e5, e6), an) r) false 0 0 := by
    intro g ρ hρ hK m
    induction m with
    | zero =>
      intro i hi
      have e : i = n := by omega
      subst e
      refine z_at hc 33 40 ?_
      have hle : nI i ≤ nI i := Int32.le_refl _
      simp (maxSteps := 4000000) only [hle, zlc, zif0, zf3, D_PT_sum, G_PT_k, E_PT_sum_k, T_PT_isWithin, f_wi_0, znr_wi, T_FR_rowsOf, CS_PT_k, N_PT_k, hC, hR, Classical.not_not, zw_J, zk_iconst, zk_bipush, zk_sipush, zk_ldc, zk_ldc_w, zk_aconst_null, zk_iload_n, zk_iload, zk_aload_n, zk_aload, zk_istore_n, zk_istore, zk_astore_n, zk_astore, zk_iinc, zk_iadd, zk_isub, zk_imul, zk_idiv, zk_iand, zk_ior, zk_ixor, zk_ishl, zk_ishr, zk_iushr, zk_i2l, zk_lcmp, zk_dup, zk_pop, zk_dup_x1, zk_dup2, zk_dup_x2, zk_goto, zk_ifCond, zk_if_icmp, zk_tableswitch, zk_getfield, zk_putfield, zk_iaload, zk_iastore, zk_laload, zk_lastore, zk_arraylength, zk_invokestatic, zk_invokevirtual, zk_invokespecial, zk_new, zk_newarray, zk_ireturn, zk_areturn, zk_return_, zi1_k, zi2_k, zr1_k, zri_k, zrii_k, zril_k, zvr_k, zl2_k, zv1_k, zv2_k, zv3_k, zli_k, zlr_k, zob_k, zai_k, zal_k, zfv_k, zlim_k, zlrm_k, zobm_k, zaim_k, zalm_k, zfvm_k, zgetf_k, zput_k, zcal_k, zrv_n, zrv_s, zswT_n, zswT_c, zgo_k, zcc_eq, zcc_ne, zcc_lt, zcc_ge, zcc_gt, zcc_le, zldj_k, zexc_k, znew_k, zial_k, zct_i, zct_l, zct_r, zct_n, zKK_r, zKK_x, znr_i, znr_0, znr_1, znr_v, znr_a, znr_o, znar_i, znar_r, znar_a, zfit_i, zfit_r, zfit_a, zbc, zlit, eq_self, List.getElem?_cons_zero, List.getElem?_cons_succ, List.set_cons_zero, List.set_cons_succ, List.take_succ_cons, List.take_zero, List.drop_succ_cons, List.drop_zero, List.reverse_cons, List.reverse_nil, List.nil_append, List.cons_append, List.append_nil, List.length_cons, List.length_nil, List.map_cons, List.map_nil, List.sum_cons, List.sum_nil, Option.toList_some, Option.toList_none, Nat.zero_add, Nat.add_zero, Bool.or_false, Bool.false_or, Bool.or_true, Bool.true_or, Bool.not_true, Bool.not_false, ge_iff_le, Fin.isValue, Fin.val_zero, Fin.val_one, Fin.val_two, true_and, and_true, true_implies, false_implies, forall_const, if_true, if_false, ite_true, ite_false, reduceIte, reduceCtorEq, true_or, or_true, and_self, implies_true, not_false_eq_true, not_true_eq_false, Nat.le_refl, Nat.zero_le, and_false, false_and, Nat.reduceAdd, Nat.reduceSub, Nat.reduceLT, Nat.reduceLeDiff, Nat.reduceMul, Nat.reduceEqDiff, Int.reduceAdd, Int.reduceNeg, Int.reduceToNat, Int.reduceLE, Int.reduceNatCast, Int.reduceSub, Int.reduceLT, Int.reduceEq, List.replicate_zero, List.replicate_succ, Int.reduceNatCast', Int32.reduceOfInt, Int32.reduceLT, Int32.reduceLE, Int32.reduceAdd, Int32.reduceSub, Int32.reduceMul, Int32.reduceToInt, Int32.reduceToNatClampNeg]
      simpa only [hC, hR] using hK
    | succ m ih =>
      intro i hi
      refine z_at hc 33 40 ?_
      have hlt : ¬ nI n ≤ nI i := nI_ge (by omega) (by omega)
      have hin : vp_in (nI i) N := vp_in_nI (by omega) (by omega)
      have hcl : (nI i).toNatClampNeg = i := nI_clamp (by omega)
      have ih := ih (i + 1) (by omega)
      simp only [sumF, nI_succ, hC, hR] at ih
      rcases hρ with ⟨rfl, rfl⟩ | ⟨rfl, rfl⟩ | ⟨rfl, rfl⟩
      · simp (maxSteps := 4000000) only [hlt, hin, hcl, zlc, zif0, zf3, D_PT_sum, G_PT_k, E_PT_sum_k, T_PT_isWithin, f_wi_0, znr_wi, T_FR_rowsOf, CS_PT_k, N_PT_k, hC, hR, Classical.not_not, zw_J, zk_iconst, zk_bipush, zk_sipush, zk_ldc, zk_ldc_w, zk_aconst_null, zk_iload_n, zk_iload, zk_aload_n, zk_aload, zk_istore_n, zk_istore, zk_astore_n, zk_astore, zk_iinc, zk_iadd, zk_isub, zk_imul, zk_idiv, zk_iand, zk_ior, zk_ixor, zk_ishl, zk_ishr, zk_iushr, zk_i2l, zk_lcmp, zk_dup, zk_pop, zk_dup_x1, zk_dup2, zk_dup_x2, zk_goto, zk_ifCond, zk_if_icmp, zk_tableswitch, zk_getfield, zk_putfield, zk_iaload, zk_iastore, zk_laload, zk_lastore, zk_arraylength, zk_invokestatic, zk_invokevirtual, zk_invokespecial, zk_new, zk_newarray, zk_ireturn, zk_areturn, zk_return_, zi1_k, zi2_k, zr1_k, zri_k, zrii_k, zril_k, zvr_k, zl2_k, zv1_k, zv2_k, zv3_k, zli_k, zlr_k, zob_k, zai_k, zal_k, zfv_k, zlim_k, zlrm_k, zobm_k, zaim_k, zalm_k, zfvm_k, zgetf_k, zput_k, zcal_k, zrv_n, zrv_s, zswT_n, zswT_c, zgo_k, zcc_eq, zcc_ne, zcc_lt, zcc_ge, zcc_gt, zcc_le, zldj_k, zexc_k, znew_k, zial_k, zct_i, zct_l, zct_r, zct_n, zKK_r, zKK_x, znr_i, znr_0, znr_1, znr_v, znr_a, znr_o, znar_i, znar_r, znar_a, zfit_i, zfit_r, zfit_a, zbc, zlit, eq_self, List.getElem?_cons_zero, List.getElem?_cons_succ, List.set_cons_zero, List.set_cons_succ, List.take_succ_cons, List.take_zero, List.drop_succ_cons, List.drop_zero, List.reverse_cons, List.reverse_nil, List.nil_append, List.cons_append, List.append_nil, List.length_cons, List.length_nil, List.map_cons, List.map_nil, List.sum_cons, List.sum_nil, Option.toList_some, Option.toList_none, Nat.zero_add, Nat.add_zero, Bool.or_false, Bool.false_or, Bool.or_true, Bool.true_or, Bool.not_true, Bool.not_false, ge_iff_le, Fin.isValue, Fin.val_zero, Fin.val_one, Fin.val_two, true_and, and_true, true_implies, false_implies, forall_const, if_true, if_false, ite_true, ite_false, reduceIte, reduceCtorEq, true_or, or_true, and_self, implies_true, not_false_eq_true, not_true_eq_false, Nat.le_refl, Nat.zero_le, and_false, false_and, Nat.reduceAdd, Nat.reduceSub, Nat.reduceLT, Nat.reduceLeDiff, Nat.reduceMul, Nat.reduceEqDiff, Int.reduceAdd, Int.reduceNeg, Int.reduceToNat, Int.reduceLE, Int.reduceNatCast, Int.reduceSub, Int.reduceLT, Int.reduceEq, List.replicate_zero, List.replicate_succ, Int.reduceNatCast', Int32.reduceOfInt, Int32.reduceLT, Int32.reduceLE, Int32.reduceAdd, Int32.reduceSub, Int32.reduceMul, Int32.reduceToInt, Int32.reduceToNatClampNeg]
        exact ih
      · simp (maxSteps := 4000000) only [hlt, hin, hcl, zlc, zif0, zf3, D_PT_sum, G_PT_k, E_PT_sum_k, T_PT_isWithin, f_wi_0, znr_wi, T_FR_rowsOf, CS_PT_k, N_PT_k, hC, hR, Classical.not_not, zw_J, zk_iconst, zk_bipush, zk_sipush, zk_ldc, zk_ldc_w, zk_aconst_null, zk_iload_n, zk_iload, zk_aload_n, zk_aload, zk_istore_n, zk_istore, zk_astore_n, zk_astore, zk_iinc, zk_iadd, zk_isub, zk_imul, zk_idiv, zk_iand, zk_ior, zk_ixor, zk_ishl, zk_ishr, zk_iushr, zk_i2l, zk_lcmp, zk_dup, zk_pop, zk_dup_x1, zk_dup2, zk_dup_x2, zk_goto, zk_ifCond, zk_if_icmp, zk_tableswitch, zk_getfield, zk_putfield, zk_iaload, zk_iastore, zk_laload, zk_lastore, zk_arraylength, zk_invokestatic, zk_invokevirtual, zk_invokespecial, zk_new, zk_newarray, zk_ireturn, zk_areturn, zk_return_, zi1_k, zi2_k, zr1_k, zri_k, zrii_k, zril_k, zvr_k, zl2_k, zv1_k, zv2_k, zv3_k, zli_k, zlr_k, zob_k, zai_k, zal_k, zfv_k, zlim_k, zlrm_k, zobm_k, zaim_k, zalm_k, zfvm_k, zgetf_k, zput_k, zcal_k, zrv_n, zrv_s, zswT_n, zswT_c, zgo_k, zcc_eq, zcc_ne, zcc_lt, zcc_ge, zcc_gt, zcc_le, zldj_k, zexc_k, znew_k, zial_k, zct_i, zct_l, zct_r, zct_n, zKK_r, zKK_x, znr_i, znr_0, znr_1, znr_v, znr_a, znr_o, znar_i, znar_r, znar_a, zfit_i, zfit_r, zfit_a, zbc, zlit, eq_self, List.getElem?_cons_zero, List.getElem?_cons_succ, List.set_cons_zero, List.set_cons_succ, List.take_succ_cons, List.take_zero, List.drop_succ_cons, List.drop_zero, List.reverse_cons, List.reverse_nil, List.nil_append, List.cons_append, List.append_nil, List.length_cons, List.length_nil, List.map_cons, List.map_nil, List.sum_cons, List.sum_nil, Option.toList_some, Option.toList_none, Nat.zero_add, Nat.add_zero, Bool.or_false, Bool.false_or, Bool.or_true, Bool.true_or, Bool.not_true, Bool.not_false, ge_iff_le, Fin.isValue, Fin.val_zero, Fin.val_one, Fin.val_two, true_and, and_true, true_implies, false_implies, forall_const, if_true, if_false, ite_true, ite_false, reduceIte, reduceCtorEq, true_or, or_true, and_self, implies_true, not_false_eq_true, not_true_eq_false, Nat.le_refl, Nat.zero_le, and_false, false_and, Nat.reduceAdd, Nat.reduceSub, Nat.reduceLT, Nat.reduceLeDiff, Nat.reduceMul, Nat.reduceEqDiff, Int.reduceAdd, Int.reduceNeg, Int.reduceToNat, Int.reduceLE, Int.reduceNatCast, Int.reduceSub, Int.reduceLT, Int.reduceEq, List.replicate_zero, List.replicate_succ, Int.reduceNatCast', Int32.reduceOfInt, Int32.reduceLT, Int32.reduceLE, Int32.reduceAdd, Int32.reduceSub, Int32.reduceMul, Int32.reduceToInt, Int32.reduceToNatClampNeg]
        exact ih
      · simp (maxSteps := 4000000) only [hlt, hin, hcl, zlc, zif0, zf3, D_PT_sum, G_PT_k, E_PT_sum_k, T_PT_isWithin, f_wi_0, znr_wi, T_FR_rowsOf, CS_PT_k, N_PT_k, hC, hR, Classical.not_not, zw_J, zk_iconst, zk_bipush, zk_sipush, zk_ldc, zk_ldc_w, zk_aconst_null, zk_iload_n, zk_iload, zk_aload_n, zk_aload, zk_istore_n, zk_istore, zk_astore_n, zk_astore, zk_iinc, zk_iadd, zk_isub, zk_imul, zk_idiv, zk_iand, zk_ior, zk_ixor, zk_ishl, zk_ishr, zk_iushr, zk_i2l, zk_lcmp, zk_dup, zk_pop, zk_dup_x1, zk_dup2, zk_dup_x2, zk_goto, zk_ifCond, zk_if_icmp, zk_tableswitch, zk_getfield, zk_putfield, zk_iaload, zk_iastore, zk_laload, zk_lastore, zk_arraylength, zk_invokestatic, zk_invokevirtual, zk_invokespecial, zk_new, zk_newarray, zk_ireturn, zk_areturn, zk_return_, zi1_k, zi2_k, zr1_k, zri_k, zrii_k, zril_k, zvr_k, zl2_k, zv1_k, zv2_k, zv3_k, zli_k, zlr_k, zob_k, zai_k, zal_k, zfv_k, zlim_k, zlrm_k, zobm_k, zaim_k, zalm_k, zfvm_k, zgetf_k, zput_k, zcal_k, zrv_n, zrv_s, zswT_n, zswT_c, zgo_k, zcc_eq, zcc_ne, zcc_lt, zcc_ge, zcc_gt, zcc_le, zldj_k, zexc_k, znew_k, zial_k, zct_i, zct_l, zct_r, zct_n, zKK_r, zKK_x, znr_i, znr_0, znr_1, znr_v, znr_a, znr_o, znar_i, znar_r, znar_a, zfit_i, zfit_r, zfit_a, zbc, zlit, eq_self, List.getElem?_cons_zero, List.getElem?_cons_succ, List.set_cons_zero, List.set_cons_succ, List.take_succ_cons, List.take_zero, List.drop_succ_cons, List.drop_zero, List.reverse_cons, List.reverse_nil, List.nil_append, List.cons_append, List.append_nil, List.length_cons, List.length_nil, List.map_cons, List.map_nil, List.sum_cons, List.sum_nil, Option.toList_some, Option.toList_none, Nat.zero_add, Nat.add_zero, Bool.or_false, Bool.false_or, Bool.or_true, Bool.true_or, Bool.not_true, Bool.not_false, ge_iff_le, Fin.isValue, Fin.val_zero, Fin.val_one, Fin.val_two, true_and, and_true, true_implies, false_implies, forall_const, if_true, if_false, ite_true, ite_false, reduceIte, reduceCtorEq, true_or, or_true, and_self, implies_true, not_false_eq_true, not_true_eq_false, Nat.le_refl, Nat.zero_le, and_false, false_and, Nat.reduceAdd, Nat.reduceSub, Nat.reduceLT, Nat.reduceLeDiff, Nat.reduceMul, Nat.reduceEqDiff, Int.reduceAdd, Int.reduceNeg, Int.reduceToNat, Int.reduceLE, Int.reduceNatCast, Int.reduceSub, Int.reduceLT, Int.reduceEq, List.replicate_zero, List.replicate_succ, Int.reduceNatCast', Int32.reduceOfInt, Int32.reduceLT, Int32.reduceLE, Int32.reduceAdd, Int32.reduceSub, Int32.reduceMul, Int32.reduceToInt, Int32.reduceToNatClampNeg]
        exact ih
  have l0 := fun z => loop co 2 (Or.inl ⟨rfl, rfl⟩) z n 0 (by omega)
  have l1 := fun z => loop de 3 (Or.inr (Or.inl ⟨rfl, rfl⟩)) z n 0 (by omega)
  have l2 := fun z => loop sn 4 (Or.inr (Or.inr ⟨rfl, rfl⟩)) z n 0 (by omega)
  simp only [sumF, nI_0, hC, hR] at l0 l1 l2 hT
  refine z_to hc 33 40 ?_
  simp (maxSteps := 4000000) only [zlc, zif0, zf3, D_PT_sum, G_PT_k, E_PT_sum_k, T_PT_isWithin, f_wi_0, znr_wi, T_FR_rowsOf, CS_PT_k, N_PT_k, hC, hR, Classical.not_not, zw_J, zk_iconst, zk_bipush, zk_sipush, zk_ldc, zk_ldc_w, zk_aconst_null, zk_iload_n, zk_iload, zk_aload_n, zk_aload, zk_istore_n, zk_istore, zk_astore_n, zk_astore, zk_iinc, zk_iadd, zk_isub, zk_imul, zk_idiv, zk_iand, zk_ior, zk_ixor, zk_ishl, zk_ishr, zk_iushr, zk_i2l, zk_lcmp, zk_dup, zk_pop, zk_dup_x1, zk_dup2, zk_dup_x2, zk_goto, zk_ifCond, zk_if_icmp, zk_tableswitch, zk_getfield, zk_putfield, zk_iaload, zk_iastore, zk_laload, zk_lastore, zk_arraylength, zk_invokestatic, zk_invokevirtual, zk_invokespecial, zk_new, zk_newarray, zk_ireturn, zk_areturn, zk_return_, zi1_k, zi2_k, zr1_k, zri_k, zrii_k, zril_k, zvr_k, zl2_k, zv1_k, zv2_k, zv3_k, zli_k, zlr_k, zob_k, zai_k, zal_k, zfv_k, zlim_k, zlrm_k, zobm_k, zaim_k, zalm_k, zfvm_k, zgetf_k, zput_k, zcal_k, zrv_n, zrv_s, zswT_n, zswT_c, zgo_k, zcc_eq, zcc_ne, zcc_lt, zcc_ge, zcc_gt, zcc_le, zldj_k, zexc_k, znew_k, zial_k, zct_i, zct_l, zct_r, zct_n, zKK_r, zKK_x, znr_i, znr_0, znr_1, znr_v, znr_a, znr_o, znar_i, znar_r, znar_a, zfit_i, zfit_r, zfit_a, zbc, zlit, eq_self, List.getElem?_cons_zero, List.getElem?_cons_succ, List.set_cons_zero, List.set_cons_succ, List.take_succ_cons, List.take_zero, List.drop_succ_cons, List.drop_zero, List.reverse_cons, List.reverse_nil, List.nil_append, List.cons_append, List.append_nil, List.length_cons, List.length_nil, List.map_cons, List.map_nil, List.sum_cons, List.sum_nil, Option.toList_some, Option.toList_none, Nat.zero_add, Nat.add_zero, Bool.or_false, Bool.false_or, Bool.or_true, Bool.true_or, Bool.not_true, Bool.not_false, ge_iff_le, Fin.isValue, Fin.val_zero, Fin.val_one, Fin.val_two, true_and, and_true, true_implies, false_implies, forall_const, if_true, if_false, ite_true, ite_false, reduceIte, reduceCtorEq, true_or, or_true, and_self, implies_true, not_false_eq_true, not_true_eq_false, Nat.le_refl, Nat.zero_le, and_false, false_and, Nat.reduceAdd, Nat.reduceSub, Nat.reduceLT, Nat.reduceLeDiff, Nat.reduceMul, Nat.reduceEqDiff, Int.reduceAdd, Int.reduceNeg, Int.reduceToNat, Int.reduceLE, Int.reduceNatCast, Int.reduceSub, Int.reduceLT, Int.reduceEq, List.replicate_zero, List.replicate_succ, Int.reduceNatCast', Int32.reduceOfInt, Int32.reduceLT, Int32.reduceLE, Int32.reduceAdd, Int32.reduceSub, Int32.reduceMul, Int32.reduceToInt, Int32.reduceToNatClampNeg]
  exact ⟨fun z => ⟨fun y => l0 ((hT.1 z).1 y), fun y => ⟨fun x => l1 ((hT.1 z).2 y |>.1 x), fun x => l2 ((hT.1 z).2 y |>.2 x)⟩⟩, hT.2⟩
end
section
def f_cl3 {α : Sort _} (L : cSt → α) (c : cSt) (i : Nat) (w s : Int32) : α := if w &&& 4 = 0 then L c else if ¬ c.2.2.2.2.1.1 = -1 then L (c_sn c (upd c.2.2.1.2.2.2 i (f_mrg (c.2.2.1.2.2.2 i) s c.2.2.2.2.1.2.2.2.1))) else L (c_sn c (upd c.2.2.1.2.2.2 i (f_mrg (c.2.2.1.2.2.2 i) s 255)))
def f_cl2 {α : Sort _} (L : cSt → α) (c : cSt) (i : Nat) (w dp s : Int32) : α := if w &&& 2 = 0 then f_cl3 L c i w s else if c.1.1 = -1 then f_cl3 L (c_de c (upd c.2.2.1.2.2.1 i dp)) i w s else if c.1.2.1 = 0 then f_cl3 L c i w s else f_cl3 L (c_de c (upd c.2.2.1.2.2.1 i dp)) i w s
def f_cl1 {α : Sort _} (L : cSt → α) (c : cSt) (i : Nat) (w col dp s : Int32) : α := if w &&& 1 = 0 then f_cl2 L c i w dp s else f_cl2 L (c_co c (upd c.2.2.1.2.1 i (f_mrg (c.2.2.1.2.1 i) col c.1.2.2.2))) i w dp s
def f_cl (c : cSt) (i : Nat) (w col dp s : Int32) : cSt := f_cl1 (fun c => c) c i w col dp s
theorem f_cl3_L {α : Sort _} (L : cSt → α) (c : cSt) (i : Nat) (w s : Int32) : L (f_cl3 (fun c => c) c i w s) = f_cl3 L c i w s := by
  unfold f_cl3
  split
  · rfl
  · split <;> rfl
theorem f_cl2_L {α : Sort _} (L : cSt → α) (c : cSt) (i : Nat) (w dp s : Int32) : L (f_cl2 (fun c => c) c i w dp s) = f_cl2 L c i w dp s := by
  unfold f_cl2
  split
  · exact f_cl3_L L _ _ _ _
  · split
    · exact f_cl3_L L _ _ _ _
    · split <;> exact f_cl3_L L _ _ _ _
theorem f_cl_L {α : Sort _} (L : cSt → α) (c : cSt) (i : Nat) (w col dp s : Int32) : L (f_cl c i w col dp s) = f_cl1 L c i w col dp s := by
  unfold f_cl f_cl1
  split <;> exact f_cl2_L L _ _ _ _ _
def T_PT_clearPlace : ClassId → ClassId → zT := fun cI _ as h K => match as with
  | [.ref 0, .int i, .int w, .int col, .int dp, .int s] => rdC h (fun c r => h = hC cI c r ∧ vp_in i c.2.2.1.1 ∧ K (.inl none) (hC cI (f_cl c i.toNatClampNeg w col dp s) r))
  | _ => False
def E_PT_clearPlace : ClassId → ClassId → Nat → Nat → Option zEn := fun cI cL kd i => match kd, i with
  | 0, 250 => some (3, none, true, true, 0, 0, T_PT_merged cI cL)
  | _, _ => none
theorem E_PT_clearPlace_k : (∀ cI cL, E_PT_clearPlace cI cL 0 250 = some (3, none, true, true, 0, 0, T_PT_merged cI cL)) := fun _ _ => rfl
set_option maxHeartbeats 4000000 in
set_option maxRecDepth 100000 in
theorem C_PT_clearPlace {l : Launch} (hl : l.stackTraces = false) : zC l y_PT_clearPlace (Cond.code y_PT_clearPlace prog_1_method_17_code 7 none :: wsG) (rmL 6 0 0) zcl false 0 0 T_PT_clearPlace := by
  refine zC_of (G := G_PT) (E := E_PT_clearPlace) (X := zXn) (SL := zSn) (NW := zNn) (CS := zCn) (ctor := false) hl (by decide) rfl rfl rfl G_PT_ok (fun z => by cases z) (fun _ _ z => by cases z) (fun _ _ _ _ z => by cases z) (List.mem_cons_of_mem _ ka_i) (fun _ _ _ z => by cases z) (fun _ z => by cases z) (by
    intro p e s m args below meth c D A cI cL hx hb hml hown hts hK hA hEX kd idx en hE
    unfold E_PT_clearPlace at hE
    split at hE
    · cases hE; exact zRow_S (C_PT_merged hl) rfl (Or.inl ⟨_, _, rfl⟩) hx hb hml hown hts hK hA hEX (hin_c kb_PT_merged) (List.mem_cons_of_mem _ kn_PT) (List.mem_cons_of_mem _ ks_PT_merged) (Or.inl (List.mem_cons_of_mem _ km_PT_250)) (by decide) (by decide) (by decide) rfl rfl
    · cases hE) ?_
  intro cI cL as h K hT
  match as, hT with
  | [.ref 0, .int i, .int w, .int col, .int dp, .int s], hT =>
  replace hT : rdC h (fun c r => h = hC cI c r ∧ vp_in i c.2.2.1.1 ∧ K (.inl none) (hC cI (f_cl c i.toNatClampNeg w col dp s) r)) := hT
  obtain ⟨⟨⟨dt, dw, lg, cb⟩, ⟨rm, fx, fy, fw, fh, ct⟩, ⟨N, co, de, sn⟩, ⟨sa, sb, sd, se⟩, ⟨a0, a1, a2, a3, a4, a5, a6⟩, ⟨b0, b1, b2, b3, b4, b5, b6⟩, ⟨e0, e1, e2, e3, e4, e5, e6⟩, an⟩, r, rfl, hv, hT⟩ := rdC_s hT
  have hT := (f_cl_L (fun c' => K (.inl none) (hC cI c' r)) _ _ _ _ _ _).mp hT
  simp only [f_cl1, f_cl2, f_cl3, zip, Classical.not_not] at hT
  simp only [hC, hR, c_sn, c_de, c_co] at hT
  refine ⟨by simp [Value.category], by simp, fun Jd hc => zw_sound (J := fun _ => none) hc (fun _ _ z => by cases z) 75 0 _ _ _ _ _ _ ?_⟩
  simp (maxSteps := 4000000) only [hv, zlc, zif0, zf3, D_PT_clearPlace_0, D_PT_clearPlace_1, G_PT_k, E_PT_clearPlace_k, T_PT_merged, hC, hR, Classical.not_not, zw_S, zk_iconst, zk_bipush, zk_sipush, zk_ldc, zk_ldc_w, zk_aconst_null, zk_iload_n, zk_iload, zk_aload_n, zk_aload, zk_istore_n, zk_istore, zk_astore_n, zk_astore, zk_iinc, zk_iadd, zk_isub, zk_imul, zk_idiv, zk_iand, zk_ior, zk_ixor, zk_ishl, zk_ishr, zk_iushr, zk_i2l, zk_lcmp, zk_dup, zk_pop, zk_dup_x1, zk_dup2, zk_dup_x2, zk_goto, zk_ifCond, zk_if_icmp, zk_tableswitch, zk_getfield, zk_putfield, zk_iaload, zk_iastore, zk_laload, zk_lastore, zk_arraylength, zk_invokestatic, zk_invokevirtual, zk_invokespecial, zk_new, zk_newarray, zk_ireturn, zk_areturn, zk_return_, zi1_k, zi2_k, zr1_k, zri_k, zrii_k, zril_k, zvr_k, zl2_k, zv1_k, zv2_k, zv3_k, zli_k, zlr_k, zob_k, zai_k, zal_k, zfv_k, zlim_k, zlrm_k, zobm_k, zaim_k, zalm_k, zfvm_k, zgetf_k, zput_k, zcal_k, zrv_n, zrv_s, zswT_n, zswT_c, zgo_k, zcc_eq, zcc_ne, zcc_lt, zcc_ge, zcc_gt, zcc_le, zldj_k, zexc_k, znew_k, zial_k, zct_i, zct_l, zct_r, zct_n, zKK_r, zKK_x, znr_i, znr_0, znr_1, znr_v, znr_a, znr_o, znar_i, znar_r, znar_a, zfit_i, zfit_r, zfit_a, zbc, zlit, eq_self, List.getElem?_cons_zero, List.getElem?_cons_succ, List.set_cons_zero, List.set_cons_succ, List.take_succ_cons, List.take_zero, List.drop_succ_cons, List.drop_zero, List.reverse_cons, List.reverse_nil, List.nil_append, List.cons_append, List.append_nil, List.length_cons, List.length_nil, List.map_cons, List.map_nil, List.sum_cons, List.sum_nil, Option.toList_some, Option.toList_none, Nat.zero_add, Nat.add_zero, Bool.or_false, Bool.false_or, Bool.or_true, Bool.true_or, Bool.not_true, Bool.not_false, ge_iff_le, Fin.isValue, Fin.val_zero, Fin.val_one, Fin.val_two, true_and, and_true, true_implies, false_implies, forall_const, if_true, if_false, ite_true, ite_false, reduceIte, reduceCtorEq, true_or, or_true, and_self, implies_true, not_false_eq_true, not_true_eq_false, Nat.le_refl, Nat.zero_le, and_false, false_and, Nat.reduceAdd, Nat.reduceSub, Nat.reduceLT, Nat.reduceLeDiff, Nat.reduceMul, Nat.reduceEqDiff, Int.reduceAdd, Int.reduceNeg, Int.reduceToNat, Int.reduceLE, Int.reduceNatCast, Int.reduceSub, Int.reduceLT, Int.reduceEq, List.replicate_zero, List.replicate_succ, Int.reduceNatCast', Int32.reduceOfInt, Int32.reduceLT, Int32.reduceLE, Int32.reduceAdd, Int32.reduceSub, Int32.reduceMul, Int32.reduceToInt, Int32.reduceToNatClampNeg]
  exact hT
end
section
theorem f_idx_nI {X Y WW HH i j : Nat} (hX : X ≤ 1023) (hY : Y ≤ 1023) (hW : WW ≤ 64) (hH : HH ≤ 64) (hi : i < WW) (hj : j < HH) : f_idx (nI X) (nI Y) (nI WW) (nI (X + i)) (nI (Y + j)) = nI (j * WW + i) := by
  unfold f_idx
  rw [pk_sub (by omega), pk_sub (by omega), pk_mul, nI_add]
  congr 1
  have h1 : Y + j - Y = j := by omega
  have h2 : X + i - X = i := by omega
  rw [h1, h2]
theorem ix_lt {WW HH i j : Nat} (hi : i < WW) (hj : j < HH) : j * WW + i < WW * HH := by
  have h1 : (j + 1) * WW ≤ HH * WW := Nat.mul_le_mul_right _ hj
  have h2 : (j + 1) * WW = j * WW + WW := Nat.succ_mul _ _
  have h3 : HH * WW = WW * HH := Nat.mul_comm _ _
  omega
def f_stp (X Y WW : Nat) (w col dp s : Int32) (j i : Nat) (z : cSt × Int32) : cSt × Int32 := if f_hold z.1.2.2.2.1.1 z.1.2.2.2.1.2.1 z.1.2.2.2.1.2.2.1 z.1.2.2.2.1.2.2.2 (nI (X + i)) (nI (Y + j)) = 0 then z else (f_cl z.1 (j * WW + i) w col dp s, z.2 + 1)
def f_row (X Y WW : Nat) (w col dp s : Int32) (j : Nat) : Nat → Nat → cSt × Int32 → cSt × Int32
  | 0, _, z => z
  | n + 1, i, z => f_row X Y WW w col dp s j n (i + 1) (f_stp X Y WW w col dp s j i z)
def f_rws (X Y WW : Nat) (w col dp s : Int32) : Nat → Nat → cSt × Int32 → cSt × Int32
  | 0, _, z => z
  | n + 1, j, z => f_rws X Y WW w col dp s n (j + 1) (f_row X Y WW w col dp s j WW 0 z)
/-- what clearing leaves as it was -/
def c_fix (c c' : cSt) : Prop := c'.1 = c.1 ∧ c'.2.1 = c.2.1 ∧ c'.2.2.1.1 = c.2.2.1.1 ∧ c'.2.2.2 = c.2.2.2
theorem c_fix_cl3 {c c0 : cSt} {i : Nat} {w s : Int32} (h : c_fix c0 c) : c_fix c0 (f_cl3 (fun c => c) c i w s) := by
  unfold f_cl3
  split
  · exact h
  · split <;> exact h
theorem c_fix_cl {c : cSt} {i : Nat} {w col dp s : Int32} : c_fix c (f_cl c i w col dp s) := by
  unfold f_cl f_cl1 f_cl2
  split
  · split
    · exact c_fix_cl3 ⟨rfl, rfl, rfl, rfl⟩
    · split
      · exact c_fix_cl3 ⟨rfl, rfl, rfl, rfl⟩
      · split <;> exact c_fix_cl3 ⟨rfl, rfl, rfl, rfl⟩
  · split
    · exact c_fix_cl3 ⟨rfl, rfl, rfl, rfl⟩
    · split
      · exact c_fix_cl3 ⟨rfl, rfl, rfl, rfl⟩
      · split <;> exact c_fix_cl3 ⟨rfl, rfl, rfl, rfl⟩
theorem c_fix_t {a b c : cSt} (h1 : c_fix a b) (h2 : c_fix b c) : c_fix a c := ⟨h2.1.trans h1.1, h2.2.1.trans h1.2.1, h2.2.2.1.trans h1.2.2.1, h2.2.2.2.trans h1.2.2.2⟩
def cOK (c : cSt) : Prop := ∃ X Y WW HH : Nat, X ≤ 1023 ∧ Y ≤ 1023 ∧ 1 ≤ WW ∧ WW ≤ 64 ∧ 1 ≤ HH ∧ HH ≤ 64 ∧ c.2.1.2.1 = nI X ∧ c.2.1.2.2.1 = nI Y ∧ c.2.1.2.2.2.1 = nI WW ∧ c.2.1.2.2.2.2.1 = nI HH ∧ c.2.1.2.2.2.2.2 = nI (WW * HH) ∧ WW * HH ≤ c.2.2.1.1 ∧ c.2.2.1.1 ≤ 4096 ∧ c.2.1.1 = nI c.2.2.1.1
def f_clr (c : cSt) (w col dp s : Int32) : cSt × Int32 := f_rws c.2.1.2.1.toNatClampNeg c.2.1.2.2.1.toNatClampNeg c.2.1.2.2.2.1.toNatClampNeg w col dp s c.2.1.2.2.2.2.1.toNatClampNeg 0 (c, 0)
def f_PT_clear (c : cSt) (w col dp s : Int32) : zO × cSt := match c with
  | ((dt, dw, lg, cb), (rm, fx, fy, fw, fh, ct), (N, co, de, sn), (sa, sb, sd, se), (a0, a1, a2, a3, a4, a5, a6), (b0, b1, b2, b3, b4, b5, b6), (e0, e1, e2, e3, e4, e5, e6), an) => if (0 ≤ w ∧ w ≤ 7) then (if (0 ≤ dp ∧ dp ≤ 16777215) then (if (0 ≤ s ∧ s ≤ 255) then (.inl (some (.int (f_clr ((dt, dw, lg, cb), (rm, fx, fy, fw, fh, ct), (N, co, de, sn), (sa, sb, sd, se), (a0, a1, a2, a3, a4, a5, a6), (b0, b1, b2, b3, b4, b5, b6), (e0, e1, e2, e3, e4, e5, e6), an) w col dp s).2)), (f_clr ((dt, dw, lg, cb), (rm, fx, fy, fw, fh, ct), (N, co, de, sn), (sa, sb, sd, se), (a0, a1, a2, a3, a4, a5, a6), (b0, b1, b2, b3, b4, b5, b6), (e0, e1, e2, e3, e4, e5, e6), an) w col dp s).1) else (.inr 6, ((dt, dw, lg, cb), (rm, fx, fy, fw, fh, ct), (N, co, de, sn), (sa, sb, sd, se), (a0, a1, a2, a3, a4, a5, a6), (b0, b1, b2, b3, b4, b5, b6), (e0, e1, e2, e3, e4, e5, e6), an))) else (.inr 6, ((dt, dw, lg, cb), (rm, fx, fy, fw, fh, ct), (N, co, de, sn), (sa, sb, sd, se), (a0, a1, a2, a3, a4, a5, a6), (b0, b1, b2, b3, b4, b5, b6), (e0, e1, e2, e3, e4, e5, e6), an))) else (.inr 6, ((dt, dw, lg, cb), (rm, fx, fy, fw, fh, ct), (N, co, de, sn), (sa, sb, sd, se), (a0, a1, a2, a3, a4, a5, a6), (b0, b1, b2, b3, b4, b5, b6), (e0, e1, e2, e3, e4, e5, e6), an))
def T_PT_clear : ClassId → ClassId → zT := fun cI _ as h K => ∃ (c : cSt) (r : zH) (w col dp s : Int32), as = [.ref 0, .int w, .int col, .int dp, .int s] ∧ h = hC cI c r ∧ cOK c ∧ K (f_PT_clear c w col dp s).1 (hC cI (f_PT_clear c w col dp s).2 r)
def E_PT_clear : ClassId → ClassId → Nat → Nat → Option zEn := fun cI cL kd i => match kd, i with
  | 0, 60 => some (3, none, true, true, 0, 0, T_PT_isWithin cI cL)
  | 0, 175 => some (1, none, true, true, 0, 0, T_PT_isDepth cI cL)
  | 0, 107 => some (1, none, true, true, 0, 0, T_PT_isByte cI cL)
  | 1, 190 => some (3, some 2, true, true, 0, 0, T_SC_hold cI cL)
  | 1, 194 => some (3, some 1, true, true, 0, 0, T_FR_indexOf cI cL)
  | 1, 198 => some (6, some 0, true, false, 0, 0, T_PT_clearPlace cI cL)
  | _, _ => none
theorem E_PT_clear_k : (∀ cI cL, E_PT_clear cI cL 0 60 = some (3, none, true, true, 0, 0, T_PT_isWithin cI cL)) ∧ (∀ cI cL, E_PT_clear cI cL 0 175 = some (1, none, true, true, 0, 0, T_PT_isDepth cI cL)) ∧ (∀ cI cL, E_PT_clear cI cL 0 107 = some (1, none, true, true, 0, 0, T_PT_isByte cI cL)) ∧ (∀ cI cL, E_PT_clear cI cL 1 190 = some (3, some 2, true, true, 0, 0, T_SC_hold cI cL)) ∧ (∀ cI cL, E_PT_clear cI cL 1 194 = some (3, some 1, true, true, 0, 0, T_FR_indexOf cI cL)) ∧ (∀ cI cL, E_PT_clear cI cL 1 198 = some (6, some 0, true, false, 0, 0, T_PT_clearPlace cI cL)) := ⟨fun _ _ => rfl, fun _ _ => rfl, fun _ _ => rfl, fun _ _ => rfl, fun _ _ => rfl, fun _ _ => rfl⟩
set_option maxHeartbeats 4000000 in
set_option maxRecDepth 100000 in
theorem C_PT_clear {l : Launch} (hl : l.stackTraces = false) : zC l y_PT_clear (Cond.code y_PT_clear prog_1_method_10_code 8 (some .int) :: wsG) (rmL 7 1 6) zcl false 1 6 T_PT_clear := by
  refine zC_of (G := G_PT) (E := E_PT_clear) (X := X_PT) (SL := SL_PT) (NW := zNn) (CS := CS_PT) (ctor := false) hl (by decide) rfl rfl rfl G_PT_ok (fun z => by cases z) CS_PT_ok (fun _ _ _ _ z => by cases z) (List.mem_cons_of_mem _ ka_i) (fun i ci ic z => ⟨X_PT_ok i ci ic z, by decide, by decide⟩) SL_PT_ok (by
    intro p e s m args below meth c D A cI cL hx hb hml hown hts hK hA hEX kd idx en hE
    unfold E_PT_clear at hE
    split at hE
    · cases hE; exact zRow_S (C_PT_isWithin hl) rfl (Or.inl ⟨_, _, rfl⟩) hx hb hml hown hts hK hA hEX (hin_c kb_PT_isWithin) (List.mem_cons_of_mem _ kn_PT) (List.mem_cons_of_mem _ ks_PT_isWithin) (Or.inl (List.mem_cons_of_mem _ km_PT_60)) (by decide) (by decide) (by decide) rfl rfl
    · cases hE; exact zRow_S (C_PT_isDepth hl) rfl (Or.inl ⟨_, _, rfl⟩) hx hb hml hown hts hK hA hEX (hin_c kb_PT_isDepth) (List.mem_cons_of_mem _ kn_PT) (List.mem_cons_of_mem _ ks_PT_isDepth) (Or.inl (List.mem_cons_of_mem _ km_PT_175)) (by decide) (by decide) (by decide) rfl rfl
    · cases hE; exact zRow_S (C_PT_isByte hl) rfl (Or.inl ⟨_, _, rfl⟩) hx hb hml hown hts hK hA hEX (hin_c kb_PT_isByte) (List.mem_cons_of_mem _ kn_PT) (List.mem_cons_of_mem _ ks_PT_isByte) (Or.inl (List.mem_cons_of_mem _ km_PT_107)) (by decide) (by decide) (by decide) rfl rfl
    · cases hE; exact zRow_V (C_SC_hold hl) rfl (Or.inl ⟨_, _, rfl⟩) hx hb hml hown hts hK hA hEX (hin_c kb_SC_hold) (List.mem_cons_of_mem _ kn_SC) (List.mem_cons_of_mem _ ki_SC_hold) (List.mem_cons_of_mem _ kv_SC_hold) rfl (Or.inr ⟨_, List.mem_cons_of_mem _ km_PT_190⟩) (by decide) (by decide) (by decide) rfl rfl
    · cases hE; exact zRow_V (C_FR_indexOf hl) rfl (Or.inl ⟨_, _, rfl⟩) hx hb hml hown hts hK hA hEX (hin_c kb_FR_indexOf) (List.mem_cons_of_mem _ kn_FR) (List.mem_cons_of_mem _ ki_FR_indexOf) (List.mem_cons_of_mem _ kv_FR_indexOf) rfl (Or.inr ⟨_, List.mem_cons_of_mem _ km_PT_194⟩) (by decide) (by decide) (by decide) rfl rfl
    · cases hE; exact zRow_V (C_PT_clearPlace hl) rfl (Or.inl ⟨_, _, rfl⟩) hx hb hml hown hts hK hA hEX (hin_c kb_PT_clearPlace) (List.mem_cons_of_mem _ kn_PT) (List.mem_cons_of_mem _ ki_PT_clearPlace) (List.mem_cons_of_mem _ kv_PT_clearPlace) rfl (Or.inl (List.mem_cons_of_mem _ km_PT_198)) (by decide) (by decide) (by decide) rfl rfl
    · cases hE) ?_
  intro cI cL as h K hT
  obtain ⟨⟨⟨dt, dw, lg, cb⟩, ⟨rm, fx, fy, fw, fh, ct⟩, ⟨N, co, de, sn⟩, ⟨sa, sb, sd, se⟩, ⟨a0, a1, a2, a3, a4, a5, a6⟩, ⟨b0, b1, b2, b3, b4, b5, b6⟩, ⟨e0, e1, e2, e3, e4, e5, e6⟩, an⟩, r, w, col, dp, s, rfl, rfl, hp, hT⟩ := hT
  obtain ⟨X, Y, WW, HH, hX, hY, hW1, hW, hH1, hH, q1, q2, q3, q4, q5, q6, q7, q8⟩ := hp
  dsimp only at q1 q2 q3 q4 q5 q6 q7 q8
  subst q1 q2 q3 q4
  refine ⟨by simp [Value.category], by simp, fun Jd hc => ?_⟩
  have inner : ∀ (j : Nat), j < HH → ∀ (n i : Nat) (c : cSt) (k : Int32) (b : Bool), n + i = WW → c_fix ((dt, dw, lg, cb), (rm, nI X, nI Y, nI WW, nI HH, ct), (N, co, de, sn), (sa, sb, sd, se), (a0, a1, a2, a3, a4, a5, a6), (b0, b1, b2, b3, b4, b5, b6), (e0, e1, e2, e3, e4, e5, e6), an) c →
      (∀ (o : Option Value) (b' : Bool), Jd 67 [some (.ref 0), some (.int w), some (.int col), some (.int dp), some (.int s), some (.int (f_row X Y WW w col dp s j n i (c, k)).2), some (.int (nI (Y + (j + 1)))), o] [] (hC cI (f_row X Y WW w col dp s j n i (c, k)).1 r) b' 0 0) → Jd 96 [some (.ref 0), some (.int w), some (.int col), some (.int dp), some (.int s), some (.int k), some (.int (nI (Y + j))), some (.int (nI (X + i)))] [] (hC cI c r) b 0 0 := by
    intro j hj n
    induction n with
    | zero =>
      intro i c k b hi hf hk
      have hk := hk (some (.int (nI (X + i)))) b
      have e : i = WW := by omega
      subst e
      have hle : nI X + nI i ≤ nI (X + i) := by rw [nI_add]; exact Int32.le_refl _
      obtain ⟨c1, c2, ⟨c3, co1, de1, sn1⟩, c4⟩ := c
      obtain ⟨f1, f2, f3, f4⟩ := hf
      dsimp only at f1 f2 f3 f4
      subst f1 f2 f3 f4
      refine z_at2 hc 96 67 40 ?_
      have ee2 : nI (Y + j) + 1 = nI (Y + (j + 1)) := nI_1 _
      simp only [f_row, hC, hR, ← ee2] at hk
      simp (maxSteps := 4000000) only [hle, zlc, zif0, zf3, D_PT_clear_0, D_PT_clear_1, G_PT_k, E_PT_clear_k, T_PT_isWithin, f_wi_0, znr_wi, T_PT_isDepth, T_PT_isByte, T_SC_hold, T_FR_indexOf, T_PT_clearPlace, rdC_k, CS_PT_k, N_PT_k, hC, hR, Classical.not_not, zw_J2, zk_iconst, zk_bipush, zk_sipush, zk_ldc, zk_ldc_w, zk_aconst_null, zk_iload_n, zk_iload, zk_aload_n, zk_aload, zk_istore_n, zk_istore, zk_astore_n, zk_astore, zk_iinc, zk_iadd, zk_isub, zk_imul, zk_idiv, zk_iand, zk_ior, zk_ixor, zk_ishl, zk_ishr, zk_iushr, zk_i2l, zk_lcmp, zk_dup, zk_pop, zk_dup_x1, zk_dup2, zk_dup_x2, zk_goto, zk_ifCond, zk_if_icmp, zk_tableswitch, zk_getfield, zk_putfield, zk_iaload, zk_iastore, zk_laload, zk_lastore, zk_arraylength, zk_invokestatic, zk_invokevirtual, zk_invokespecial, zk_new, zk_newarray, zk_ireturn, zk_areturn, zk_return_, zi1_k, zi2_k, zr1_k, zri_k, zrii_k, zril_k, zvr_k, zl2_k, zv1_k, zv2_k, zv3_k, zli_k, zlr_k, zob_k, zai_k, zal_k, zfv_k, zlim_k, zlrm_k, zobm_k, zaim_k, zalm_k, zfvm_k, zgetf_k, zput_k, zcal_k, zrv_n, zrv_s, zswT_n, zswT_c, zgo_k, zcc_eq, zcc_ne, zcc_lt, zcc_ge, zcc_gt, zcc_le, zldj_k, zexc_k, znew_k, zial_k, zct_i, zct_l, zct_r, zct_n, zKK_r, zKK_x, znr_i, znr_0, znr_1, znr_v, znr_a, znr_o, znar_i, znar_r, znar_a, zfit_i, zfit_r, zfit_a, zbc, zlit, eq_self, List.getElem?_cons_zero, List.getElem?_cons_succ, List.set_cons_zero, List.set_cons_succ, List.take_succ_cons, List.take_zero, List.drop_succ_cons, List.drop_zero, List.reverse_cons, List.reverse_nil, List.nil_append, List.cons_append, List.append_nil, List.length_cons, List.length_nil, List.map_cons, List.map_nil, List.sum_cons, List.sum_nil, Option.toList_some, Option.toList_none, Nat.zero_add, Nat.add_zero, Bool.or_false, Bool.false_or, Bool.or_true, Bool.true_or, Bool.not_true, Bool.not_false, ge_iff_le, Fin.isValue, Fin.val_zero, Fin.val_one, Fin.val_two, true_and, and_true, true_implies, false_implies, forall_const, if_true, if_false, ite_true, ite_false, reduceIte, reduceCtorEq, true_or, or_true, and_self, implies_true, not_false_eq_true, not_true_eq_false, Nat.le_refl, Nat.zero_le, and_false, false_and, Nat.reduceAdd, Nat.reduceSub, Nat.reduceLT, Nat.reduceLeDiff, Nat.reduceMul, Nat.reduceEqDiff, Int.reduceAdd, Int.reduceNeg, Int.reduceToNat, Int.reduceLE, Int.reduceNatCast, Int.reduceSub, Int.reduceLT, Int.reduceEq, List.replicate_zero, List.replicate_succ, Int.reduceNatCast', Int32.reduceOfInt, Int32.reduceLT, Int32.reduceLE, Int32.reduceAdd, Int32.reduceSub, Int32.reduceMul, Int32.reduceToInt, Int32.reduceToNatClampNeg]
      exact hk
    | succ n ih =>
      intro i c k b hi hf hk
      have hlt : ¬ nI X + nI WW ≤ nI (X + i) := by rw [nI_add]; exact nI_ge (by omega) (by omega)
      have hidx := f_idx_nI hX hY hW hH (show i < WW by omega) hj
      have hij := ix_lt (show i < WW by omega) hj
      have hcl : (nI (j * WW + i)).toNatClampNeg = j * WW + i := nI_clamp (by omega)
      obtain ⟨c1, c2, ⟨c3, co1, de1, sn1⟩, c4⟩ := c
      obtain ⟨f1, f2, f3, f4⟩ := hf
      dsimp only at f1 f2 f3 f4
      subst f1 f2 f3 f4
      have hin : vp_in (nI (j * WW + i)) c3 := vp_in_nI (by omega) (by omega)
      have ee2 : nI (X + i) + 1 = nI (X + (i + 1)) := nI_1 _
      by_cases hh : f_hold sa sb sd se (nI (X + i)) (nI (Y + j)) = 0
      · have ih := ih (i + 1) ((dt, dw, lg, cb), (rm, nI X, nI Y, nI WW, nI HH, ct), (c3, co1, de1, sn1), (sa, sb, sd, se), (a0, a1, a2, a3, a4, a5, a6), (b0, b1, b2, b3, b4, b5, b6), (e0, e1, e2, e3, e4, e5, e6), an) k b (by omega) ⟨rfl, rfl, rfl, rfl⟩ (fun o b' => by simpa only [f_row, f_stp, hh, if_true] using hk o b')
        refine z_at2 hc 96 67 40 ?_
        simp only [hC, hR, ← ee2] at ih
        simp (maxSteps := 4000000) only [hlt, hh, zlc, zif0, zf3, D_PT_clear_0, D_PT_clear_1, G_PT_k, E_PT_clear_k, T_PT_isWithin, f_wi_0, znr_wi, T_PT_isDepth, T_PT_isByte, T_SC_hold, T_FR_indexOf, T_PT_clearPlace, rdC_k, CS_PT_k, N_PT_k, hC, hR, Classical.not_not, zw_J2, zk_iconst, zk_bipush, zk_sipush, zk_ldc, zk_ldc_w, zk_aconst_null, zk_iload_n, zk_iload, zk_aload_n, zk_aload, zk_istore_n, zk_istore, zk_astore_n, zk_astore, zk_iinc, zk_iadd, zk_isub, zk_imul, zk_idiv, zk_iand, zk_ior, zk_ixor, zk_ishl, zk_ishr, zk_iushr, zk_i2l, zk_lcmp, zk_dup, zk_pop, zk_dup_x1, zk_dup2, zk_dup_x2, zk_goto, zk_ifCond, zk_if_icmp, zk_tableswitch, zk_getfield, zk_putfield, zk_iaload, zk_iastore, zk_laload, zk_lastore, zk_arraylength, zk_invokestatic, zk_invokevirtual, zk_invokespecial, zk_new, zk_newarray, zk_ireturn, zk_areturn, zk_return_, zi1_k, zi2_k, zr1_k, zri_k, zrii_k, zril_k, zvr_k, zl2_k, zv1_k, zv2_k, zv3_k, zli_k, zlr_k, zob_k, zai_k, zal_k, zfv_k, zlim_k, zlrm_k, zobm_k, zaim_k, zalm_k, zfvm_k, zgetf_k, zput_k, zcal_k, zrv_n, zrv_s, zswT_n, zswT_c, zgo_k, zcc_eq, zcc_ne, zcc_lt, zcc_ge, zcc_gt, zcc_le, zldj_k, zexc_k, znew_k, zial_k, zct_i, zct_l, zct_r, zct_n, zKK_r, zKK_x, znr_i, znr_0, znr_1, znr_v, znr_a, znr_o, znar_i, znar_r, znar_a, zfit_i, zfit_r, zfit_a, zbc, zlit, eq_self, List.getElem?_cons_zero, List.getElem?_cons_succ, List.set_cons_zero, List.set_cons_succ, List.take_succ_cons, List.take_zero, List.drop_succ_cons, List.drop_zero, List.reverse_cons, List.reverse_nil, List.nil_append, List.cons_append, List.append_nil, List.length_cons, List.length_nil, List.map_cons, List.map_nil, List.sum_cons, List.sum_nil, Option.toList_some, Option.toList_none, Nat.zero_add, Nat.add_zero, Bool.or_false, Bool.false_or, Bool.or_true, Bool.true_or, Bool.not_true, Bool.not_false, ge_iff_le, Fin.isValue, Fin.val_zero, Fin.val_one, Fin.val_two, true_and, and_true, true_implies, false_implies, forall_const, if_true, if_false, ite_true, ite_false, reduceIte, reduceCtorEq, true_or, or_true, and_self, implies_true, not_false_eq_true, not_true_eq_false, Nat.le_refl, Nat.zero_le, and_false, false_and, Nat.reduceAdd, Nat.reduceSub, Nat.reduceLT, Nat.reduceLeDiff, Nat.reduceMul, Nat.reduceEqDiff, Int.reduceAdd, Int.reduceNeg, Int.reduceToNat, Int.reduceLE, Int.reduceNatCast, Int.reduceSub, Int.reduceLT, Int.reduceEq, List.replicate_zero, List.replicate_succ, Int.reduceNatCast', Int32.reduceOfInt, Int32.reduceLT, Int32.reduceLE, Int32.reduceAdd, Int32.reduceSub, Int32.reduceMul, Int32.reduceToInt, Int32.reduceToNatClampNeg]
        exact ih
      · have ih := ih (i + 1) _ (k + 1) true (by omega) (c_fix_cl (c := ((dt, dw, lg, cb), (rm, nI X, nI Y, nI WW, nI HH, ct), (c3, co1, de1, sn1), (sa, sb, sd, se), (a0, a1, a2, a3, a4, a5, a6), (b0, b1, b2, b3, b4, b5, b6), (e0, e1, e2, e3, e4, e5, e6), an)) (i := j * WW + i) (w := w) (col := col) (dp := dp) (s := s)) (fun o b' => by simpa only [f_row, f_stp, hh, if_false] using hk o b')
        refine z_at2 hc 96 67 40 ?_
        simp only [hC, hR, ← ee2] at ih
        simp (maxSteps := 4000000) only [hlt, hh, hidx, hcl, hin, zlc, zif0, zf3, D_PT_clear_0, D_PT_clear_1, G_PT_k, E_PT_clear_k, T_PT_isWithin, f_wi_0, znr_wi, T_PT_isDepth, T_PT_isByte, T_SC_hold, T_FR_indexOf, T_PT_clearPlace, rdC_k, CS_PT_k, N_PT_k, hC, hR, Classical.not_not, zw_J2, zk_iconst, zk_bipush, zk_sipush, zk_ldc, zk_ldc_w, zk_aconst_null, zk_iload_n, zk_iload, zk_aload_n, zk_aload, zk_istore_n, zk_istore, zk_astore_n, zk_astore, zk_iinc, zk_iadd, zk_isub, zk_imul, zk_idiv, zk_iand, zk_ior, zk_ixor, zk_ishl, zk_ishr, zk_iushr, zk_i2l, zk_lcmp, zk_dup, zk_pop, zk_dup_x1, zk_dup2, zk_dup_x2, zk_goto, zk_ifCond, zk_if_icmp, zk_tableswitch, zk_getfield, zk_putfield, zk_iaload, zk_iastore, zk_laload, zk_lastore, zk_arraylength, zk_invokestatic, zk_invokevirtual, zk_invokespecial, zk_new, zk_newarray, zk_ireturn, zk_areturn, zk_return_, zi1_k, zi2_k, zr1_k, zri_k, zrii_k, zril_k, zvr_k, zl2_k, zv1_k, zv2_k, zv3_k, zli_k, zlr_k, zob_k, zai_k, zal_k, zfv_k, zlim_k, zlrm_k, zobm_k, zaim_k, zalm_k, zfvm_k, zgetf_k, zput_k, zcal_k, zrv_n, zrv_s, zswT_n, zswT_c, zgo_k, zcc_eq, zcc_ne, zcc_lt, zcc_ge, zcc_gt, zcc_le, zldj_k, zexc_k, znew_k, zial_k, zct_i, zct_l, zct_r, zct_n, zKK_r, zKK_x, znr_i, znr_0, znr_1, znr_v, znr_a, znr_o, znar_i, znar_r, znar_a, zfit_i, zfit_r, zfit_a, zbc, zlit, eq_self, List.getElem?_cons_zero, List.getElem?_cons_succ, List.set_cons_zero, List.set_cons_succ, List.take_succ_cons, List.take_zero, List.drop_succ_cons, List.drop_zero, List.reverse_cons, List.reverse_nil, List.nil_append, List.cons_append, List.append_nil, List.length_cons, List.length_nil, List.map_cons, List.map_nil, List.sum_cons, List.sum_nil, Option.toList_some, Option.toList_none, Nat.zero_add, Nat.add_zero, Bool.or_false, Bool.false_or, Bool.or_true, Bool.true_or, Bool.not_true, Bool.not_false, ge_iff_le, Fin.isValue, Fin.val_zero, Fin.val_one, Fin.val_two, true_and, and_true, true_implies, false_implies, forall_const, if_true, if_false, ite_true, ite_false, reduceIte, reduceCtorEq, true_or, or_true, and_self, implies_true, not_false_eq_true, not_true_eq_false, Nat.le_refl, Nat.zero_le, and_false, false_and, Nat.reduceAdd, Nat.reduceSub, Nat.reduceLT, Nat.reduceLeDiff, Nat.reduceMul, Nat.reduceEqDiff, Int.reduceAdd, Int.reduceNeg, Int.reduceToNat, Int.reduceLE, Int.reduceNatCast, Int.reduceSub, Int.reduceLT, Int.reduceEq, List.replicate_zero, List.replicate_succ, Int.reduceNatCast', Int32.reduceOfInt, Int32.reduceLT, Int32.reduceLE, Int32.reduceAdd, Int32.reduceSub, Int32.reduceMul, Int32.reduceToInt, Int32.reduceToNatClampNeg]
        exact ih
  have outer : ∀ (n j : Nat) (c : cSt) (k : Int32) (b : Bool) (o : Option Value), n + j = HH → c_fix ((dt, dw, lg, cb), (rm, nI X, nI Y, nI WW, nI HH, ct), (N, co, de, sn), (sa, sb, sd, se), (a0, a1, a2, a3, a4, a5, a6), (b0, b1, b2, b3, b4, b5, b6), (e0, e1, e2, e3, e4, e5, e6), an) c → K (.inl (some (.int (f_rws X Y WW w col dp s n j (c, k)).2))) (hC cI (f_rws X Y WW w col dp s n j (c, k)).1 r) → Jd 67 [some (.ref 0), some (.int w), some (.int col), some (.int dp), some (.int s), some (.int k), some (.int (nI (Y + j))), o] [] (hC cI c r) b 0 0 := by
    intro n
    induction n with
    | zero =>
      intro j c k b o hj hf hk
      have e : j = HH := by omega
      subst e
      have hle : nI Y + nI j ≤ nI (Y + j) := by rw [nI_add]; exact Int32.le_refl _
      obtain ⟨c1, c2, ⟨c3, co1, de1, sn1⟩, c4⟩ := c
      obtain ⟨f1, f2, f3, f4⟩ := hf
      dsimp only at f1 f2 f3 f4
      subst f1 f2 f3 f4
      refine z_at2 hc 96 67 40 ?_
      simp only [f_rws, hC, hR] at hk
      simp (maxSteps := 4000000) only [hle, zlc, zif0, zf3, D_PT_clear_0, D_PT_clear_1, G_PT_k, E_PT_clear_k, T_PT_isWithin, f_wi_0, znr_wi, T_PT_isDepth, T_PT_isByte, T_SC_hold, T_FR_indexOf, T_PT_clearPlace, rdC_k, CS_PT_k, N_PT_k, hC, hR, Classical.not_not, zw_J2, zk_iconst, zk_bipush, zk_sipush, zk_ldc, zk_ldc_w, zk_aconst_null, zk_iload_n, zk_iload, zk_aload_n, zk_aload, zk_istore_n, zk_istore, zk_astore_n, zk_astore, zk_iinc, zk_iadd, zk_isub, zk_imul, zk_idiv, zk_iand, zk_ior, zk_ixor, zk_ishl, zk_ishr, zk_iushr, zk_i2l, zk_lcmp, zk_dup, zk_pop, zk_dup_x1, zk_dup2, zk_dup_x2, zk_goto, zk_ifCond, zk_if_icmp, zk_tableswitch, zk_getfield, zk_putfield, zk_iaload, zk_iastore, zk_laload, zk_lastore, zk_arraylength, zk_invokestatic, zk_invokevirtual, zk_invokespecial, zk_new, zk_newarray, zk_ireturn, zk_areturn, zk_return_, zi1_k, zi2_k, zr1_k, zri_k, zrii_k, zril_k, zvr_k, zl2_k, zv1_k, zv2_k, zv3_k, zli_k, zlr_k, zob_k, zai_k, zal_k, zfv_k, zlim_k, zlrm_k, zobm_k, zaim_k, zalm_k, zfvm_k, zgetf_k, zput_k, zcal_k, zrv_n, zrv_s, zswT_n, zswT_c, zgo_k, zcc_eq, zcc_ne, zcc_lt, zcc_ge, zcc_gt, zcc_le, zldj_k, zexc_k, znew_k, zial_k, zct_i, zct_l, zct_r, zct_n, zKK_r, zKK_x, znr_i, znr_0, znr_1, znr_v, znr_a, znr_o, znar_i, znar_r, znar_a, zfit_i, zfit_r, zfit_a, zbc, zlit, eq_self, List.getElem?_cons_zero, List.getElem?_cons_succ, List.set_cons_zero, List.set_cons_succ, List.take_succ_cons, List.take_zero, List.drop_succ_cons, List.drop_zero, List.reverse_cons, List.reverse_nil, List.nil_append, List.cons_append, List.append_nil, List.length_cons, List.length_nil, List.map_cons, List.map_nil, List.sum_cons, List.sum_nil, Option.toList_some, Option.toList_none, Nat.zero_add, Nat.add_zero, Bool.or_false, Bool.false_or, Bool.or_true, Bool.true_or, Bool.not_true, Bool.not_false, ge_iff_le, Fin.isValue, Fin.val_zero, Fin.val_one, Fin.val_two, true_and, and_true, true_implies, false_implies, forall_const, if_true, if_false, ite_true, ite_false, reduceIte, reduceCtorEq, true_or, or_true, and_self, implies_true, not_false_eq_true, not_true_eq_false, Nat.le_refl, Nat.zero_le, and_false, false_and, Nat.reduceAdd, Nat.reduceSub, Nat.reduceLT, Nat.reduceLeDiff, Nat.reduceMul, Nat.reduceEqDiff, Int.reduceAdd, Int.reduceNeg, Int.reduceToNat, Int.reduceLE, Int.reduceNatCast, Int.reduceSub, Int.reduceLT, Int.reduceEq, List.replicate_zero, List.replicate_succ, Int.reduceNatCast', Int32.reduceOfInt, Int32.reduceLT, Int32.reduceLE, Int32.reduceAdd, Int32.reduceSub, Int32.reduceMul, Int32.reduceToInt, Int32.reduceToNatClampNeg]
      exact hk
    | succ n ih =>
      intro j c k b o hj hf hk
      have hlt : ¬ nI Y + nI HH ≤ nI (Y + j) := by rw [nI_add]; exact nI_ge (by omega) (by omega)
      have hrow : c_fix ((dt, dw, lg, cb), (rm, nI X, nI Y, nI WW, nI HH, ct), (N, co, de, sn), (sa, sb, sd, se), (a0, a1, a2, a3, a4, a5, a6), (b0, b1, b2, b3, b4, b5, b6), (e0, e1, e2, e3, e4, e5, e6), an) (f_row X Y WW w col dp s j WW 0 (c, k)).1 := by
        have : ∀ (n i : Nat) (c : cSt) (k : Int32), c_fix ((dt, dw, lg, cb), (rm, nI X, nI Y, nI WW, nI HH, ct), (N, co, de, sn), (sa, sb, sd, se), (a0, a1, a2, a3, a4, a5, a6), (b0, b1, b2, b3, b4, b5, b6), (e0, e1, e2, e3, e4, e5, e6), an) c → c_fix ((dt, dw, lg, cb), (rm, nI X, nI Y, nI WW, nI HH, ct), (N, co, de, sn), (sa, sb, sd, se), (a0, a1, a2, a3, a4, a5, a6), (b0, b1, b2, b3, b4, b5, b6), (e0, e1, e2, e3, e4, e5, e6), an) (f_row X Y WW w col dp s j n i (c, k)).1 := by
          intro n
          induction n with
          | zero => intro i c k h; exact h
          | succ n ih =>
            intro i c k h
            unfold f_row f_stp
            split
            · exact ih _ _ _ h
            · exact ih _ _ _ (c_fix_t h c_fix_cl)
        exact this WW 0 c k hf
      have hin := inner j (by omega) WW 0 c k b (by omega) hf (fun o b' => ih (j + 1) _ _ b' o (by omega) hrow (by simpa only [f_rws] using hk))
      rw [Nat.add_zero] at hin
      obtain ⟨c1, c2, ⟨c3, co1, de1, sn1⟩, c4⟩ := c
      obtain ⟨f1, f2, f3, f4⟩ := hf
      dsimp only at f1 f2 f3 f4
      subst f1 f2 f3 f4
      refine z_at2 hc 96 67 40 ?_
      simp only [hC, hR] at hin
      simp (maxSteps := 4000000) only [hlt, zlc, zif0, zf3, D_PT_clear_0, D_PT_clear_1, G_PT_k, E_PT_clear_k, T_PT_isWithin, f_wi_0, znr_wi, T_PT_isDepth, T_PT_isByte, T_SC_hold, T_FR_indexOf, T_PT_clearPlace, rdC_k, CS_PT_k, N_PT_k, hC, hR, Classical.not_not, zw_J2, zk_iconst, zk_bipush, zk_sipush, zk_ldc, zk_ldc_w, zk_aconst_null, zk_iload_n, zk_iload, zk_aload_n, zk_aload, zk_istore_n, zk_istore, zk_astore_n, zk_astore, zk_iinc, zk_iadd, zk_isub, zk_imul, zk_idiv, zk_iand, zk_ior, zk_ixor, zk_ishl, zk_ishr, zk_iushr, zk_i2l, zk_lcmp, zk_dup, zk_pop, zk_dup_x1, zk_dup2, zk_dup_x2, zk_goto, zk_ifCond, zk_if_icmp, zk_tableswitch, zk_getfield, zk_putfield, zk_iaload, zk_iastore, zk_laload, zk_lastore, zk_arraylength, zk_invokestatic, zk_invokevirtual, zk_invokespecial, zk_new, zk_newarray, zk_ireturn, zk_areturn, zk_return_, zi1_k, zi2_k, zr1_k, zri_k, zrii_k, zril_k, zvr_k, zl2_k, zv1_k, zv2_k, zv3_k, zli_k, zlr_k, zob_k, zai_k, zal_k, zfv_k, zlim_k, zlrm_k, zobm_k, zaim_k, zalm_k, zfvm_k, zgetf_k, zput_k, zcal_k, zrv_n, zrv_s, zswT_n, zswT_c, zgo_k, zcc_eq, zcc_ne, zcc_lt, zcc_ge, zcc_gt, zcc_le, zldj_k, zexc_k, znew_k, zial_k, zct_i, zct_l, zct_r, zct_n, zKK_r, zKK_x, znr_i, znr_0, znr_1, znr_v, znr_a, znr_o, znar_i, znar_r, znar_a, zfit_i, zfit_r, zfit_a, zbc, zlit, eq_self, List.getElem?_cons_zero, List.getElem?_cons_succ, List.set_cons_zero, List.set_cons_succ, List.take_succ_cons, List.take_zero, List.drop_succ_cons, List.drop_zero, List.reverse_cons, List.reverse_nil, List.nil_append, List.cons_append, List.append_nil, List.length_cons, List.length_nil, List.map_cons, List.map_nil, List.sum_cons, List.sum_nil, Option.toList_some, Option.toList_none, Nat.zero_add, Nat.add_zero, Bool.or_false, Bool.false_or, Bool.or_true, Bool.true_or, Bool.not_true, Bool.not_false, ge_iff_le, Fin.isValue, Fin.val_zero, Fin.val_one, Fin.val_two, true_and, and_true, true_implies, false_implies, forall_const, if_true, if_false, ite_true, ite_false, reduceIte, reduceCtorEq, true_or, or_true, and_self, implies_true, not_false_eq_true, not_true_eq_false, Nat.le_refl, Nat.zero_le, and_false, false_and, Nat.reduceAdd, Nat.reduceSub, Nat.reduceLT, Nat.reduceLeDiff, Nat.reduceMul, Nat.reduceEqDiff, Int.reduceAdd, Int.reduceNeg, Int.reduceToNat, Int.reduceLE, Int.reduceNatCast, Int.reduceSub, Int.reduceLT, Int.reduceEq, List.replicate_zero, List.replicate_succ, Int.reduceNatCast', Int32.reduceOfInt, Int32.reduceLT, Int32.reduceLE, Int32.reduceAdd, Int32.reduceSub, Int32.reduceMul, Int32.reduceToInt, Int32.reduceToNatClampNeg]
      exact hin
  simp only [f_PT_clear, zKp K (fun c => hC cI c r), Classical.not_not] at hT
  have fin : K (.inl (some (.int (f_clr ((dt, dw, lg, cb), (rm, nI X, nI Y, nI WW, nI HH, ct), (N, co, de, sn), (sa, sb, sd, se), (a0, a1, a2, a3, a4, a5, a6), (b0, b1, b2, b3, b4, b5, b6), (e0, e1, e2, e3, e4, e5, e6), an) w col dp s).2))) (hC cI (f_clr ((dt, dw, lg, cb), (rm, nI X, nI Y, nI WW, nI HH, ct), (N, co, de, sn), (sa, sb, sd, se), (a0, a1, a2, a3, a4, a5, a6), (b0, b1, b2, b3, b4, b5, b6), (e0, e1, e2, e3, e4, e5, e6), an) w col dp s).1 r) → Jd 67 [some (.ref 0), some (.int w), some (.int col), some (.int dp), some (.int s), some (.int 0), some (.int (nI Y)), none] [] (hC cI ((dt, dw, lg, cb), (rm, nI X, nI Y, nI WW, nI HH, ct), (N, co, de, sn), (sa, sb, sd, se), (a0, a1, a2, a3, a4, a5, a6), (b0, b1, b2, b3, b4, b5, b6), (e0, e1, e2, e3, e4, e5, e6), an) r) false 0 0 := by
    intro z
    have z : K (.inl (some (.int (f_rws X Y WW w col dp s HH 0 (((dt, dw, lg, cb), (rm, nI X, nI Y, nI WW, nI HH, ct), (N, co, de, sn), (sa, sb, sd, se), (a0, a1, a2, a3, a4, a5, a6), (b0, b1, b2, b3, b4, b5, b6), (e0, e1, e2, e3, e4, e5, e6), an), 0)).2))) (hC cI (f_rws X Y WW w col dp s HH 0 (((dt, dw, lg, cb), (rm, nI X, nI Y, nI WW, nI HH, ct), (N, co, de, sn), (sa, sb, sd, se), (a0, a1, a2, a3, a4, a5, a6), (b0, b1, b2, b3, b4, b5, b6), (e0, e1, e2, e3, e4, e5, e6), an), 0)).1 r) := by
      simpa only [f_clr, nI_clamp (show X < 2 ^ 31 by omega), nI_clamp (show Y < 2 ^ 31 by omega), nI_clamp (show WW < 2 ^ 31 by omega), nI_clamp (show HH < 2 ^ 31 by omega)] using z
    exact outer HH 0 _ 0 false none (by omega) ⟨rfl, rfl, rfl, rfl⟩ z
  refine zw_sound hc (z_J2 (hd := 96) (hd2 := 67)) 60 0 _ _ _ _ _ _ ?_
  generalize f_clr ((dt, dw, lg, cb), (rm, nI X, nI Y, nI WW, nI HH, ct), (N, co, de, sn), (sa, sb, sd, se), (a0, a1, a2, a3, a4, a5, a6), (b0, b1, b2, b3, b4, b5, b6), (e0, e1, e2, e3, e4, e5, e6), an) w col dp s = zz at hT fin
  simp only [hC, hR] at hT fin
  simp (maxSteps := 4000000) only [zlc, zif0, zf3, D_PT_clear_0, D_PT_clear_1, G_PT_k, E_PT_clear_k, T_PT_isWithin, f_wi_0, znr_wi, T_PT_isDepth, T_PT_isByte, T_SC_hold, T_FR_indexOf, T_PT_clearPlace, rdC_k, CS_PT_k, N_PT_k, hC, hR, Classical.not_not, zw_J2, zk_iconst, zk_bipush, zk_sipush, zk_ldc, zk_ldc_w, zk_aconst_null, zk_iload_n, zk_iload, zk_aload_n, zk_aload, zk_istore_n, zk_istore, zk_astore_n, zk_astore, zk_iinc, zk_iadd, zk_isub, zk_imul, zk_idiv, zk_iand, zk_ior, zk_ixor, zk_ishl, zk_ishr, zk_iushr, zk_i2l, zk_lcmp, zk_dup, zk_pop, zk_dup_x1, zk_dup2, zk_dup_x2, zk_goto, zk_ifCond, zk_if_icmp, zk_tableswitch, zk_getfield, zk_putfield, zk_iaload, zk_iastore, zk_laload, zk_lastore, zk_arraylength, zk_invokestatic, zk_invokevirtual, zk_invokespecial, zk_new, zk_newarray, zk_ireturn, zk_areturn, zk_return_, zi1_k, zi2_k, zr1_k, zri_k, zrii_k, zril_k, zvr_k, zl2_k, zv1_k, zv2_k, zv3_k, zli_k, zlr_k, zob_k, zai_k, zal_k, zfv_k, zlim_k, zlrm_k, zobm_k, zaim_k, zalm_k, zfvm_k, zgetf_k, zput_k, zcal_k, zrv_n, zrv_s, zswT_n, zswT_c, zgo_k, zcc_eq, zcc_ne, zcc_lt, zcc_ge, zcc_gt, zcc_le, zldj_k, zexc_k, znew_k, zial_k, zct_i, zct_l, zct_r, zct_n, zKK_r, zKK_x, znr_i, znr_0, znr_1, znr_v, znr_a, znr_o, znar_i, znar_r, znar_a, zfit_i, zfit_r, zfit_a, zbc, zlit, eq_self, List.getElem?_cons_zero, List.getElem?_cons_succ, List.set_cons_zero, List.set_cons_succ, List.take_succ_cons, List.take_zero, List.drop_succ_cons, List.drop_zero, List.reverse_cons, List.reverse_nil, List.nil_append, List.cons_append, List.append_nil, List.length_cons, List.length_nil, List.map_cons, List.map_nil, List.sum_cons, List.sum_nil, Option.toList_some, Option.toList_none, Nat.zero_add, Nat.add_zero, Bool.or_false, Bool.false_or, Bool.or_true, Bool.true_or, Bool.not_true, Bool.not_false, ge_iff_le, Fin.isValue, Fin.val_zero, Fin.val_one, Fin.val_two, true_and, and_true, true_implies, false_implies, forall_const, if_true, if_false, ite_true, ite_false, reduceIte, reduceCtorEq, true_or, or_true, and_self, implies_true, not_false_eq_true, not_true_eq_false, Nat.le_refl, Nat.zero_le, and_false, false_and, Nat.reduceAdd, Nat.reduceSub, Nat.reduceLT, Nat.reduceLeDiff, Nat.reduceMul, Nat.reduceEqDiff, Int.reduceAdd, Int.reduceNeg, Int.reduceToNat, Int.reduceLE, Int.reduceNatCast, Int.reduceSub, Int.reduceLT, Int.reduceEq, List.replicate_zero, List.replicate_succ, Int.reduceNatCast', Int32.reduceOfInt, Int32.reduceLT, Int32.reduceLE, Int32.reduceAdd, Int32.reduceSub, Int32.reduceMul, Int32.reduceToInt, Int32.reduceToNatClampNeg]
  exact ⟨fun z => ⟨fun y => ⟨fun x => fin (((hT.1 z).1 y).1 x), ((hT.1 z).1 y).2⟩, (hT.1 z).2⟩, hT.2⟩
end
section
def T_SC_init : ClassId → ClassId → zT := fun _ _ as h K => match as with
  | [.ref i] => zob h i 2 (fun fs => match fs with
    | [u0, u1, u2, u3] => K (.inl none) (h.set i (.inr (2, [.int 0, .int 0, .int (-1), .int 0])))
    | _ => False)
  | _ => False
theorem T_SC_init_r {cI cL : ClassId} : ∀ as h K, T_SC_init cI cL as h K → ∃ i as', as = .ref i :: as' := by
  intro as h K hT
  match as, hT with
  | [.ref i], _ => exact ⟨i, [], rfl⟩
def E_SC_init : ClassId → ClassId → Nat → Nat → Option zEn := fun cI cL kd i => match kd, i with
  | 2, 1 => some (1, none, true, true, 0, 0, zT_obj)
  | _, _ => none
theorem E_SC_init_k : (∀ cI cL, E_SC_init cI cL 2 1 = some (1, none, true, true, 0, 0, zT_obj)) := fun _ _ => rfl
set_option maxHeartbeats 4000000 in
set_option maxRecDepth 100000 in
theorem C_SC_init {l : Launch} (hl : l.stackTraces = false) : zC l y_SC_init (Cond.code y_SC_init prog_5_method_1_code 1 none :: wsG) (rmL 1 0 0) zcl false 0 0 T_SC_init := by
  refine zC_of (G := G_SC_c) (E := E_SC_init) (X := zXn) (SL := zSn) (NW := zNn) (CS := zCn) (ctor := true) hl (by decide) rfl rfl rfl G_SC_c_ok (fun z => rfl) (fun _ _ z => by cases z) (fun _ _ _ _ z => by cases z) (List.mem_cons_of_mem _ ka_i) (fun _ _ _ z => by cases z) (fun _ z => by cases z) (by
    intro p e s m args below meth c D A cI cL hx hb hml hown hts hK hA hEX kd idx en hE
    unfold E_SC_init at hE
    split at hE
    · cases hE; exact zRow_obj hx hb hml hown hts (List.mem_cons_of_mem _ km_SC_1) (List.mem_cons_of_mem _ ko_i) (List.mem_cons_of_mem _ ko_c) (by decide) (by decide)
    · cases hE) ?_
  intro cI cL as h K hT
  match as, hT with
  | [.ref i], hT =>
  obtain ⟨fs, hi, hT⟩ := zob_s hT
  match fs, hi, hT with
  | [u0, u1, u2, u3], hi, hT =>
  have hlt : i < h.length := (List.getElem?_eq_some_iff.mp hi).1
  have hg : ∀ x, (h.set i x)[i]? = some x := fun x => List.getElem?_set_self hlt
  have hT : K (.inl none) (h.set i (.inr (2, [.int 0, .int 0, .int (-1), .int 0]))) := hT
  refine ⟨by simp [Value.category], by simp, fun Jd hc => zw_sound (J := fun _ => none) hc (fun _ _ z => by cases z) 20 0 _ _ _ _ _ _ ?_⟩
  simp (maxSteps := 4000000) only [zlc, zif0, zf3, D_SC_init, G_SC_c_k, E_SC_init_k, zT_obj, Classical.not_not, hi, hg, List.set_set, List.length_set, zw_S, zk_iconst, zk_bipush, zk_sipush, zk_ldc, zk_ldc_w, zk_aconst_null, zk_iload_n, zk_iload, zk_aload_n, zk_aload, zk_istore_n, zk_istore, zk_astore_n, zk_astore, zk_iinc, zk_iadd, zk_isub, zk_imul, zk_idiv, zk_iand, zk_ior, zk_ixor, zk_ishl, zk_ishr, zk_iushr, zk_i2l, zk_lcmp, zk_dup, zk_pop, zk_dup_x1, zk_dup2, zk_dup_x2, zk_goto, zk_ifCond, zk_if_icmp, zk_tableswitch, zk_getfield, zk_putfield, zk_iaload, zk_iastore, zk_laload, zk_lastore, zk_arraylength, zk_invokestatic, zk_invokevirtual, zk_invokespecial, zk_new, zk_newarray, zk_ireturn, zk_areturn, zk_return_, zi1_k, zi2_k, zr1_k, zri_k, zrii_k, zril_k, zvr_k, zl2_k, zv1_k, zv2_k, zv3_k, zli_k, zlr_k, zob_k, zai_k, zal_k, zfv_k, zlim_k, zlrm_k, zobm_k, zaim_k, zalm_k, zfvm_k, zgetf_k, zput_k, zcal_k, zrv_n, zrv_s, zswT_n, zswT_c, zgo_k, zcc_eq, zcc_ne, zcc_lt, zcc_ge, zcc_gt, zcc_le, zldj_k, zexc_k, znew_k, zial_k, zct_i, zct_l, zct_r, zct_n, zKK_r, zKK_x, znr_i, znr_0, znr_1, znr_v, znr_a, znr_o, znar_i, znar_r, znar_a, zfit_i, zfit_r, zfit_a, zbc, zlit, eq_self, List.getElem?_cons_zero, List.getElem?_cons_succ, List.set_cons_zero, List.set_cons_succ, List.take_succ_cons, List.take_zero, List.drop_succ_cons, List.drop_zero, List.reverse_cons, List.reverse_nil, List.nil_append, List.cons_append, List.append_nil, List.length_cons, List.length_nil, List.map_cons, List.map_nil, List.sum_cons, List.sum_nil, Option.toList_some, Option.toList_none, Nat.zero_add, Nat.add_zero, Bool.or_false, Bool.false_or, Bool.or_true, Bool.true_or, Bool.not_true, Bool.not_false, ge_iff_le, Fin.isValue, Fin.val_zero, Fin.val_one, Fin.val_two, true_and, and_true, true_implies, false_implies, forall_const, if_true, if_false, ite_true, ite_false, reduceIte, reduceCtorEq, true_or, or_true, and_self, implies_true, not_false_eq_true, not_true_eq_false, Nat.le_refl, Nat.zero_le, and_false, false_and, Nat.reduceAdd, Nat.reduceSub, Nat.reduceLT, Nat.reduceLeDiff, Nat.reduceMul, Nat.reduceEqDiff, Int.reduceAdd, Int.reduceNeg, Int.reduceToNat, Int.reduceLE, Int.reduceNatCast, Int.reduceSub, Int.reduceLT, Int.reduceEq, List.replicate_zero, List.replicate_succ, Int.reduceNatCast', Int32.reduceOfInt, Int32.reduceLT, Int32.reduceLE, Int32.reduceAdd, Int32.reduceSub, Int32.reduceMul, Int32.reduceToInt, Int32.reduceToNatClampNeg]
  exact hT
def T_ST_init : ClassId → ClassId → zT := fun _ _ as h K => match as with
  | [.ref i] => zob h i 3 (fun fs => match fs with
    | [u0, u1, u2, u3, u4, u5, u6] => K (.inl none) (h.set i (.inr (3, [.int (-1), u1, u2, u3, u4, u5, u6])))
    | _ => False)
  | _ => False
theorem T_ST_init_r {cI cL : ClassId} : ∀ as h K, T_ST_init cI cL as h K → ∃ i as', as = .ref i :: as' := by
  intro as h K hT
  match as, hT with
  | [.ref i], _ => exact ⟨i, [], rfl⟩
def E_ST_init : ClassId → ClassId → Nat → Nat → Option zEn := fun cI cL kd i => match kd, i with
  | 2, 3 => some (1, none, true, true, 0, 0, zT_obj)
  | _, _ => none
theorem E_ST_init_k : (∀ cI cL, E_ST_init cI cL 2 3 = some (1, none, true, true, 0, 0, zT_obj)) := fun _ _ => rfl
set_option maxHeartbeats 4000000 in
set_option maxRecDepth 100000 in
theorem C_ST_init {l : Launch} (hl : l.stackTraces = false) : zC l y_ST_init (Cond.code y_ST_init prog_6_method_1_code 1 none :: wsG) (rmL 1 0 0) zcl false 0 0 T_ST_init := by
  refine zC_of (G := G_ST_c) (E := E_ST_init) (X := zXn) (SL := zSn) (NW := zNn) (CS := zCn) (ctor := true) hl (by decide) rfl rfl rfl G_ST_c_ok (fun z => rfl) (fun _ _ z => by cases z) (fun _ _ _ _ z => by cases z) (List.mem_cons_of_mem _ ka_i) (fun _ _ _ z => by cases z) (fun _ z => by cases z) (by
    intro p e s m args below meth c D A cI cL hx hb hml hown hts hK hA hEX kd idx en hE
    unfold E_ST_init at hE
    split at hE
    · cases hE; exact zRow_obj hx hb hml hown hts (List.mem_cons_of_mem _ km_ST_3) (List.mem_cons_of_mem _ ko_i) (List.mem_cons_of_mem _ ko_c) (by decide) (by decide)
    · cases hE) ?_
  intro cI cL as h K hT
  match as, hT with
  | [.ref i], hT =>
  obtain ⟨fs, hi, hT⟩ := zob_s hT
  match fs, hi, hT with
  | [u0, u1, u2, u3, u4, u5, u6], hi, hT =>
  have hlt : i < h.length := (List.getElem?_eq_some_iff.mp hi).1
  have hg : ∀ x, (h.set i x)[i]? = some x := fun x => List.getElem?_set_self hlt
  have hT : K (.inl none) (h.set i (.inr (3, [.int (-1), u1, u2, u3, u4, u5, u6]))) := hT
  refine ⟨by simp [Value.category], by simp, fun Jd hc => zw_sound (J := fun _ => none) hc (fun _ _ z => by cases z) 11 0 _ _ _ _ _ _ ?_⟩
  simp (maxSteps := 4000000) only [zlc, zif0, zf3, D_ST_init, G_ST_c_k, E_ST_init_k, zT_obj, Classical.not_not, hi, hg, List.set_set, List.length_set, zw_S, zk_iconst, zk_bipush, zk_sipush, zk_ldc, zk_ldc_w, zk_aconst_null, zk_iload_n, zk_iload, zk_aload_n, zk_aload, zk_istore_n, zk_istore, zk_astore_n, zk_astore, zk_iinc, zk_iadd, zk_isub, zk_imul, zk_idiv, zk_iand, zk_ior, zk_ixor, zk_ishl, zk_ishr, zk_iushr, zk_i2l, zk_lcmp, zk_dup, zk_pop, zk_dup_x1, zk_dup2, zk_dup_x2, zk_goto, zk_ifCond, zk_if_icmp, zk_tableswitch, zk_getfield, zk_putfield, zk_iaload, zk_iastore, zk_laload, zk_lastore, zk_arraylength, zk_invokestatic, zk_invokevirtual, zk_invokespecial, zk_new, zk_newarray, zk_ireturn, zk_areturn, zk_return_, zi1_k, zi2_k, zr1_k, zri_k, zrii_k, zril_k, zvr_k, zl2_k, zv1_k, zv2_k, zv3_k, zli_k, zlr_k, zob_k, zai_k, zal_k, zfv_k, zlim_k, zlrm_k, zobm_k, zaim_k, zalm_k, zfvm_k, zgetf_k, zput_k, zcal_k, zrv_n, zrv_s, zswT_n, zswT_c, zgo_k, zcc_eq, zcc_ne, zcc_lt, zcc_ge, zcc_gt, zcc_le, zldj_k, zexc_k, znew_k, zial_k, zct_i, zct_l, zct_r, zct_n, zKK_r, zKK_x, znr_i, znr_0, znr_1, znr_v, znr_a, znr_o, znar_i, znar_r, znar_a, zfit_i, zfit_r, zfit_a, zbc, zlit, eq_self, List.getElem?_cons_zero, List.getElem?_cons_succ, List.set_cons_zero, List.set_cons_succ, List.take_succ_cons, List.take_zero, List.drop_succ_cons, List.drop_zero, List.reverse_cons, List.reverse_nil, List.nil_append, List.cons_append, List.append_nil, List.length_cons, List.length_nil, List.map_cons, List.map_nil, List.sum_cons, List.sum_nil, Option.toList_some, Option.toList_none, Nat.zero_add, Nat.add_zero, Bool.or_false, Bool.false_or, Bool.or_true, Bool.true_or, Bool.not_true, Bool.not_false, ge_iff_le, Fin.isValue, Fin.val_zero, Fin.val_one, Fin.val_two, true_and, and_true, true_implies, false_implies, forall_const, if_true, if_false, ite_true, ite_false, reduceIte, reduceCtorEq, true_or, or_true, and_self, implies_true, not_false_eq_true, not_true_eq_false, Nat.le_refl, Nat.zero_le, and_false, false_and, Nat.reduceAdd, Nat.reduceSub, Nat.reduceLT, Nat.reduceLeDiff, Nat.reduceMul, Nat.reduceEqDiff, Int.reduceAdd, Int.reduceNeg, Int.reduceToNat, Int.reduceLE, Int.reduceNatCast, Int.reduceSub, Int.reduceLT, Int.reduceEq, List.replicate_zero, List.replicate_succ, Int.reduceNatCast', Int32.reduceOfInt, Int32.reduceLT, Int32.reduceLE, Int32.reduceAdd, Int32.reduceSub, Int32.reduceMul, Int32.reduceToInt, Int32.reduceToNatClampNeg]
  exact hT
def T_BL_init : ClassId → ClassId → zT := fun _ _ as h K => match as with
  | [.ref i] => zob h i 4 (fun fs => match fs with
    | [u0, u1, u2, u3, u4, u5, u6] => K (.inl none) (h.set i (.inr (4, [u0, u1, u2, u3, .int (-1), u5, u6])))
    | _ => False)
  | _ => False
theorem T_BL_init_r {cI cL : ClassId} : ∀ as h K, T_BL_init cI cL as h K → ∃ i as', as = .ref i :: as' := by
  intro as h K hT
  match as, hT with
  | [.ref i], _ => exact ⟨i, [], rfl⟩
def E_BL_init : ClassId → ClassId → Nat → Nat → Option zEn := fun cI cL kd i => match kd, i with
  | 2, 3 => some (1, none, true, true, 0, 0, zT_obj)
  | _, _ => none
theorem E_BL_init_k : (∀ cI cL, E_BL_init cI cL 2 3 = some (1, none, true, true, 0, 0, zT_obj)) := fun _ _ => rfl
set_option maxHeartbeats 4000000 in
set_option maxRecDepth 100000 in
theorem C_BL_init {l : Launch} (hl : l.stackTraces = false) : zC l y_BL_init (Cond.code y_BL_init prog_2_method_1_code 1 none :: wsG) (rmL 1 0 0) zcl false 0 0 T_BL_init := by
  refine zC_of (G := G_BL_c) (E := E_BL_init) (X := zXn) (SL := zSn) (NW := zNn) (CS := zCn) (ctor := true) hl (by decide) rfl rfl rfl G_BL_c_ok (fun z => rfl) (fun _ _ z => by cases z) (fun _ _ _ _ z => by cases z) (List.mem_cons_of_mem _ ka_i) (fun _ _ _ z => by cases z) (fun _ z => by cases z) (by
    intro p e s m args below meth c D A cI cL hx hb hml hown hts hK hA hEX kd idx en hE
    unfold E_BL_init at hE
    split at hE
    · cases hE; exact zRow_obj hx hb hml hown hts (List.mem_cons_of_mem _ km_BL_3) (List.mem_cons_of_mem _ ko_i) (List.mem_cons_of_mem _ ko_c) (by decide) (by decide)
    · cases hE) ?_
  intro cI cL as h K hT
  match as, hT with
  | [.ref i], hT =>
  obtain ⟨fs, hi, hT⟩ := zob_s hT
  match fs, hi, hT with
  | [u0, u1, u2, u3, u4, u5, u6], hi, hT =>
  have hlt : i < h.length := (List.getElem?_eq_some_iff.mp hi).1
  have hg : ∀ x, (h.set i x)[i]? = some x := fun x => List.getElem?_set_self hlt
  have hT : K (.inl none) (h.set i (.inr (4, [u0, u1, u2, u3, .int (-1), u5, u6]))) := hT
  refine ⟨by simp [Value.category], by simp, fun Jd hc => zw_sound (J := fun _ => none) hc (fun _ _ z => by cases z) 11 0 _ _ _ _ _ _ ?_⟩
  simp (maxSteps := 4000000) only [zlc, zif0, zf3, D_BL_init, G_BL_c_k, E_BL_init_k, zT_obj, Classical.not_not, hi, hg, List.set_set, List.length_set, zw_S, zk_iconst, zk_bipush, zk_sipush, zk_ldc, zk_ldc_w, zk_aconst_null, zk_iload_n, zk_iload, zk_aload_n, zk_aload, zk_istore_n, zk_istore, zk_astore_n, zk_astore, zk_iinc, zk_iadd, zk_isub, zk_imul, zk_idiv, zk_iand, zk_ior, zk_ixor, zk_ishl, zk_ishr, zk_iushr, zk_i2l, zk_lcmp, zk_dup, zk_pop, zk_dup_x1, zk_dup2, zk_dup_x2, zk_goto, zk_ifCond, zk_if_icmp, zk_tableswitch, zk_getfield, zk_putfield, zk_iaload, zk_iastore, zk_laload, zk_lastore, zk_arraylength, zk_invokestatic, zk_invokevirtual, zk_invokespecial, zk_new, zk_newarray, zk_ireturn, zk_areturn, zk_return_, zi1_k, zi2_k, zr1_k, zri_k, zrii_k, zril_k, zvr_k, zl2_k, zv1_k, zv2_k, zv3_k, zli_k, zlr_k, zob_k, zai_k, zal_k, zfv_k, zlim_k, zlrm_k, zobm_k, zaim_k, zalm_k, zfvm_k, zgetf_k, zput_k, zcal_k, zrv_n, zrv_s, zswT_n, zswT_c, zgo_k, zcc_eq, zcc_ne, zcc_lt, zcc_ge, zcc_gt, zcc_le, zldj_k, zexc_k, znew_k, zial_k, zct_i, zct_l, zct_r, zct_n, zKK_r, zKK_x, znr_i, znr_0, znr_1, znr_v, znr_a, znr_o, znar_i, znar_r, znar_a, zfit_i, zfit_r, zfit_a, zbc, zlit, eq_self, List.getElem?_cons_zero, List.getElem?_cons_succ, List.set_cons_zero, List.set_cons_succ, List.take_succ_cons, List.take_zero, List.drop_succ_cons, List.drop_zero, List.reverse_cons, List.reverse_nil, List.nil_append, List.cons_append, List.append_nil, List.length_cons, List.length_nil, List.map_cons, List.map_nil, List.sum_cons, List.sum_nil, Option.toList_some, Option.toList_none, Nat.zero_add, Nat.add_zero, Bool.or_false, Bool.false_or, Bool.or_true, Bool.true_or, Bool.not_true, Bool.not_false, ge_iff_le, Fin.isValue, Fin.val_zero, Fin.val_one, Fin.val_two, true_and, and_true, true_implies, false_implies, forall_const, if_true, if_false, ite_true, ite_false, reduceIte, reduceCtorEq, true_or, or_true, and_self, implies_true, not_false_eq_true, not_true_eq_false, Nat.le_refl, Nat.zero_le, and_false, false_and, Nat.reduceAdd, Nat.reduceSub, Nat.reduceLT, Nat.reduceLeDiff, Nat.reduceMul, Nat.reduceEqDiff, Int.reduceAdd, Int.reduceNeg, Int.reduceToNat, Int.reduceLE, Int.reduceNatCast, Int.reduceSub, Int.reduceLT, Int.reduceEq, List.replicate_zero, List.replicate_succ, Int.reduceNatCast', Int32.reduceOfInt, Int32.reduceLT, Int32.reduceLE, Int32.reduceAdd, Int32.reduceSub, Int32.reduceMul, Int32.reduceToInt, Int32.reduceToNatClampNeg]
  exact hT
end
section
theorem zmm : ((if (4096 : Int32) < 1 then (4096 : Int32) else 1) = 1) ∧ ((if (4096 : Int32) < 4096 then (4096 : Int32) else 4096) = 4096) ∧ ((if (1 : Int32) < 1 then (1 : Int32) else 1) = 1) ∧ ((if (1 : Int32) < 4096 then (4096 : Int32) else 1) = 4096) := by decide
theorem zbk : (∀ n x, zb_o n (some (.int x)) = True) ∧ (∀ n i, zb_o n (some (.ref i)) = (i < n)) ∧ (∀ n, zb_o n none = True) ∧ (∀ n x, zb_v n (.int x) = True) ∧ (∀ n i, zb_v n (.ref i) = (i < n)) ∧ (∀ n, zb_v n .null = True) ∧ (∀ n a, zb_e n (.inl a) = True) ∧ (∀ n ci fs, zb_e n (.inr (ci, fs)) = ∀ v ∈ fs, zb_v n v) := ⟨fun _ _ => propext Iff.rfl, fun _ _ => propext Iff.rfl, fun _ => propext Iff.rfl, fun _ _ => propext Iff.rfl, fun _ _ => propext Iff.rfl, fun _ => propext Iff.rfl, fun _ _ => propext Iff.rfl, fun _ _ _ => propext Iff.rfl⟩
theorem zap_g {α : Type} (a : List α) (x : α) (t : List α) : (a ++ x :: t)[a.length]? = some x := by simp
theorem zap_s {α : Type} (a : List α) (x y : α) (t : List α) : (a ++ x :: t).set a.length y = a ++ y :: t := by simp
theorem zb_up {h : zH} {n m : Nat} (hnm : n ≤ m) (hb : ∀ y ∈ h, zb_e n y) : ∀ y ∈ h, zb_e m y := by
  intro y hy
  have := hb y hy
  cases y with
  | inl a => trivial
  | inr o => intro v hv; have := this v hv; cases v <;> first | trivial | exact Nat.lt_of_lt_of_le this hnm
def T_FR_init : ClassId → ClassId → zT := fun cI _ as h K => ∃ (h0 : zH) (m : Int32), as = [.ref h0.length, .int m] ∧ h = h0 ++ [.inr (1, [.int 0, .null, .null, .null, .int 0, .int 0, .int 0, .int 0, .int 0])] ∧ (m = 1 ∨ m = 4096) ∧ (∀ y ∈ h0, zb_e h0.length y) ∧ h0.length + 10 < 1000 ∧ K (.inl none) (h0 ++ [.inr (1, [.int m, .ref (h0.length + 1), .ref (h0.length + 2), .ref (h0.length + 3), .int 0, .int 0, .int 1, .int 1, .int 1]), .inl (cI, m.toNatClampNeg, .inl (fun _ => 0)), .inl (cI, m.toNatClampNeg, .inl (fun _ => 0)), .inl (cI, m.toNatClampNeg, .inl (fun _ => 0))])
theorem T_FR_init_r {cI cL : ClassId} : ∀ as h K, T_FR_init cI cL as h K → ∃ i as', as = .ref i :: as' := by
  rintro as h K ⟨h0, m, rfl, -⟩
  exact ⟨_, _, rfl⟩
def E_FR_init : ClassId → ClassId → Nat → Nat → Option zEn := fun cI cL kd i => match kd, i with
  | 2, 5 => some (1, none, true, true, 0, 0, zT_obj)
  | 0, 11 => some (2, none, true, true, 0, 0, zT_min)
  | 0, 17 => some (2, none, true, true, 0, 0, zT_max)
  | _, _ => none
theorem E_FR_init_k : (∀ cI cL, E_FR_init cI cL 2 5 = some (1, none, true, true, 0, 0, zT_obj)) ∧ (∀ cI cL, E_FR_init cI cL 0 11 = some (2, none, true, true, 0, 0, zT_min)) ∧ (∀ cI cL, E_FR_init cI cL 0 17 = some (2, none, true, true, 0, 0, zT_max)) := ⟨fun _ _ => rfl, fun _ _ => rfl, fun _ _ => rfl⟩
set_option maxHeartbeats 4000000 in
set_option maxRecDepth 100000 in
theorem C_FR_init {l : Launch} (hl : l.stackTraces = false) : zC l y_FR_init (Cond.code y_FR_init prog_4_method_1_code 2 none :: wsG) (rmL 1 3 12288) zcl false 3 12288 T_FR_init := by
  refine zC_of (G := G_FR_c) (E := E_FR_init) (X := zXn) (SL := zSn) (NW := zNn) (CS := zCn) (ctor := true) hl (by decide) rfl rfl rfl G_FR_c_ok (fun z => rfl) (fun _ _ z => by cases z) (fun _ _ _ _ z => by cases z) (List.mem_cons_of_mem _ ka_i) (fun _ _ _ z => by cases z) (fun _ z => by cases z) (by
    intro p e s m args below meth c D A cI cL hx hb hml hown hts hK hA hEX kd idx en hE
    unfold E_FR_init at hE
    split at hE
    · cases hE; exact zRow_obj hx hb hml hown hts (List.mem_cons_of_mem _ km_FR_5) (List.mem_cons_of_mem _ ko_i) (List.mem_cons_of_mem _ ko_c) (by decide) (by decide)
    · cases hE; exact zRow_min hx hb hml hown hts (List.mem_cons_of_mem _ km_FR_11) (List.mem_cons_of_mem _ kj_s_min) (List.mem_cons_of_mem _ kj_n) (List.mem_cons_of_mem _ kj_c_min) (by decide) (by decide)
    · cases hE; exact zRow_max hx hb hml hown hts (List.mem_cons_of_mem _ km_FR_17) (List.mem_cons_of_mem _ kj_s_max) (List.mem_cons_of_mem _ kj_n) (List.mem_cons_of_mem _ kj_c_max) (by decide) (by decide)
    · cases hE) ?_
  intro cI cL as h K hT
  obtain ⟨h0, m, rfl, rfl, hm, hb, hlen, hT⟩ := hT
  have b1 := zb_up (Nat.le_add_right _ 1) hb
  have b2 := zb_up (Nat.le_add_right _ 2) hb
  have b3 := zb_up (Nat.le_add_right _ 3) hb
  have l1 : h0.length + 1 < 1000 := by omega
  have l2 : h0.length + 2 < 1000 := by omega
  have l3 : h0.length + 3 < 1000 := by omega
  have o1 : h0.length < h0.length + 1 := by omega
  have o2 : h0.length < h0.length + 2 := by omega
  have o3 : h0.length < h0.length + 3 := by omega
  have o4 : h0.length + 1 < h0.length + 2 := by omega
  have o5 : h0.length + 1 < h0.length + 3 := by omega
  have o6 : h0.length + 2 < h0.length + 3 := by omega
  refine ⟨by simp [Value.category], by simp, fun Jd hc => zw_sound (J := fun _ => none) hc (fun _ _ z => by cases z) 50 0 _ _ _ _ _ _ ?_⟩
  rcases hm with rfl | rfl
  · simp (maxSteps := 4000000) only [zap_g, zap_s, b1, b2, b3, l1, l2, l3, o1, o2, o3, o4, o5, o6, List.append_assoc, List.length_append, Nat.add_assoc, List.forall_mem_cons, List.forall_mem_append, List.not_mem_nil, zbk, zmm, zlc, zif0, zf3, D_FR_init, G_FR_c_k, E_FR_init_k, zT_obj, zT_min, zT_max, Classical.not_not, zw_S, zk_iconst, zk_bipush, zk_sipush, zk_ldc, zk_ldc_w, zk_aconst_null, zk_iload_n, zk_iload, zk_aload_n, zk_aload, zk_istore_n, zk_istore, zk_astore_n, zk_astore, zk_iinc, zk_iadd, zk_isub, zk_imul, zk_idiv, zk_iand, zk_ior, zk_ixor, zk_ishl, zk_ishr, zk_iushr, zk_i2l, zk_lcmp, zk_dup, zk_pop, zk_dup_x1, zk_dup2, zk_dup_x2, zk_goto, zk_ifCond, zk_if_icmp, zk_tableswitch, zk_getfield, zk_putfield, zk_iaload, zk_iastore, zk_laload, zk_lastore, zk_arraylength, zk_invokestatic, zk_invokevirtual, zk_invokespecial, zk_new, zk_newarray, zk_ireturn, zk_areturn, zk_return_, zi1_k, zi2_k, zr1_k, zri_k, zrii_k, zril_k, zvr_k, zl2_k, zv1_k, zv2_k, zv3_k, zli_k, zlr_k, zob_k, zai_k, zal_k, zfv_k, zlim_k, zlrm_k, zobm_k, zaim_k, zalm_k, zfvm_k, zgetf_k, zput_k, zcal_k, zrv_n, zrv_s, zswT_n, zswT_c, zgo_k, zcc_eq, zcc_ne, zcc_lt, zcc_ge, zcc_gt, zcc_le, zldj_k, zexc_k, znew_k, zial_k, zct_i, zct_l, zct_r, zct_n, zKK_r, zKK_x, znr_i, znr_0, znr_1, znr_v, znr_a, znr_o, znar_i, znar_r, znar_a, zfit_i, zfit_r, zfit_a, zbc, zlit, eq_self, List.getElem?_cons_zero, List.getElem?_cons_succ, List.set_cons_zero, List.set_cons_succ, List.take_succ_cons, List.take_zero, List.drop_succ_cons, List.drop_zero, List.reverse_cons, List.reverse_nil, List.nil_append, List.cons_append, List.append_nil, List.length_cons, List.length_nil, List.map_cons, List.map_nil, List.sum_cons, List.sum_nil, Option.toList_some, Option.toList_none, Nat.zero_add, Nat.add_zero, Bool.or_false, Bool.false_or, Bool.or_true, Bool.true_or, Bool.not_true, Bool.not_false, ge_iff_le, Fin.isValue, Fin.val_zero, Fin.val_one, Fin.val_two, true_and, and_true, true_implies, false_implies, forall_const, if_true, if_false, ite_true, ite_false, reduceIte, reduceCtorEq, true_or, or_true, and_self, implies_true, not_false_eq_true, not_true_eq_false, Nat.le_refl, Nat.zero_le, and_false, false_and, Nat.reduceAdd, Nat.reduceSub, Nat.reduceLT, Nat.reduceLeDiff, Nat.reduceMul, Nat.reduceEqDiff, Int.reduceAdd, Int.reduceNeg, Int.reduceToNat, Int.reduceLE, Int.reduceNatCast, Int.reduceSub, Int.reduceLT, Int.reduceEq, List.replicate_zero, List.replicate_succ, Int.reduceNatCast', Int32.reduceOfInt, Int32.reduceLT, Int32.reduceLE, Int32.reduceAdd, Int32.reduceSub, Int32.reduceMul, Int32.reduceToInt, Int32.reduceToNatClampNeg]
    simp only [Int32.reduceToNatClampNeg] at hT
    exact ⟨b1, b2, b3, hT⟩
  · simp (maxSteps := 4000000) only [zap_g, zap_s, b1, b2, b3, l1, l2, l3, o1, o2, o3, o4, o5, o6, List.append_assoc, List.length_append, Nat.add_assoc, List.forall_mem_cons, List.forall_mem_append, List.not_mem_nil, zbk, zmm, zlc, zif0, zf3, D_FR_init, G_FR_c_k, E_FR_init_k, zT_obj, zT_min, zT_max, Classical.not_not, zw_S, zk_iconst, zk_bipush, zk_sipush, zk_ldc, zk_ldc_w, zk_aconst_null, zk_iload_n, zk_iload, zk_aload_n, zk_aload, zk_istore_n, zk_istore, zk_astore_n, zk_astore, zk_iinc, zk_iadd, zk_isub, zk_imul, zk_idiv, zk_iand, zk_ior, zk_ixor, zk_ishl, zk_ishr, zk_iushr, zk_i2l, zk_lcmp, zk_dup, zk_pop, zk_dup_x1, zk_dup2, zk_dup_x2, zk_goto, zk_ifCond, zk_if_icmp, zk_tableswitch, zk_getfield, zk_putfield, zk_iaload, zk_iastore, zk_laload, zk_lastore, zk_arraylength, zk_invokestatic, zk_invokevirtual, zk_invokespecial, zk_new, zk_newarray, zk_ireturn, zk_areturn, zk_return_, zi1_k, zi2_k, zr1_k, zri_k, zrii_k, zril_k, zvr_k, zl2_k, zv1_k, zv2_k, zv3_k, zli_k, zlr_k, zob_k, zai_k, zal_k, zfv_k, zlim_k, zlrm_k, zobm_k, zaim_k, zalm_k, zfvm_k, zgetf_k, zput_k, zcal_k, zrv_n, zrv_s, zswT_n, zswT_c, zgo_k, zcc_eq, zcc_ne, zcc_lt, zcc_ge, zcc_gt, zcc_le, zldj_k, zexc_k, znew_k, zial_k, zct_i, zct_l, zct_r, zct_n, zKK_r, zKK_x, znr_i, znr_0, znr_1, znr_v, znr_a, znr_o, znar_i, znar_r, znar_a, zfit_i, zfit_r, zfit_a, zbc, zlit, eq_self, List.getElem?_cons_zero, List.getElem?_cons_succ, List.set_cons_zero, List.set_cons_succ, List.take_succ_cons, List.take_zero, List.drop_succ_cons, List.drop_zero, List.reverse_cons, List.reverse_nil, List.nil_append, List.cons_append, List.append_nil, List.length_cons, List.length_nil, List.map_cons, List.map_nil, List.sum_cons, List.sum_nil, Option.toList_some, Option.toList_none, Nat.zero_add, Nat.add_zero, Bool.or_false, Bool.false_or, Bool.or_true, Bool.true_or, Bool.not_true, Bool.not_false, ge_iff_le, Fin.isValue, Fin.val_zero, Fin.val_one, Fin.val_two, true_and, and_true, true_implies, false_implies, forall_const, if_true, if_false, ite_true, ite_false, reduceIte, reduceCtorEq, true_or, or_true, and_self, implies_true, not_false_eq_true, not_true_eq_false, Nat.le_refl, Nat.zero_le, and_false, false_and, Nat.reduceAdd, Nat.reduceSub, Nat.reduceLT, Nat.reduceLeDiff, Nat.reduceMul, Nat.reduceEqDiff, Int.reduceAdd, Int.reduceNeg, Int.reduceToNat, Int.reduceLE, Int.reduceNatCast, Int.reduceSub, Int.reduceLT, Int.reduceEq, List.replicate_zero, List.replicate_succ, Int.reduceNatCast', Int32.reduceOfInt, Int32.reduceLT, Int32.reduceLE, Int32.reduceAdd, Int32.reduceSub, Int32.reduceMul, Int32.reduceToInt, Int32.reduceToNatClampNeg]
    simp only [Int32.reduceToNatClampNeg] at hT
    exact ⟨b1, b2, b3, hT⟩
end
section
def c00 : cSt := ((-1, 0, -1, -1), (1, 0, 0, 1, 1, 1), (1, fun _ => 0, fun _ => 0, fun _ => 0), (0, 0, -1, 0), (-1, 0, 0, 0, 0, 0, 0), (-1, 0, 0, 0, 0, 0, 0), (0, 0, 0, 0, -1, 0, 0), fun _ => 0)
def T_PT_init : ClassId → ClassId → zT := fun cI _ as h K => as = [.ref 0] ∧ h = [.inr (0, [.null, .null, .int 0, .int 0, .null, .null, .null, .int 0, .int 0, .null])] ∧ K (.inl none) (hC cI c00 [])
theorem T_PT_init_r {cI cL : ClassId} : ∀ as h K, T_PT_init cI cL as h K → ∃ i as', as = .ref i :: as' := by
  rintro as h K ⟨rfl, -⟩
  exact ⟨_, _, rfl⟩
def E_PT_init : ClassId → ClassId → Nat → Nat → Option zEn := fun cI cL kd i => match kd, i with
  | 2, 1 => some (1, none, true, true, 0, 0, zT_obj)
  | 2, 9 => some (2, none, false, false, 3, 12288, T_FR_init cI cL)
  | 2, 20 => some (1, none, true, false, 0, 0, T_SC_init cI cL)
  | 2, 35 => some (1, none, true, false, 0, 0, T_ST_init cI cL)
  | 2, 45 => some (1, none, true, false, 0, 0, T_BL_init cI cL)
  | _, _ => none
theorem E_PT_init_k : (∀ cI cL, E_PT_init cI cL 2 1 = some (1, none, true, true, 0, 0, zT_obj)) ∧ (∀ cI cL, E_PT_init cI cL 2 9 = some (2, none, false, false, 3, 12288, T_FR_init cI cL)) ∧ (∀ cI cL, E_PT_init cI cL 2 20 = some (1, none, true, false, 0, 0, T_SC_init cI cL)) ∧ (∀ cI cL, E_PT_init cI cL 2 35 = some (1, none, true, false, 0, 0, T_ST_init cI cL)) ∧ (∀ cI cL, E_PT_init cI cL 2 45 = some (1, none, true, false, 0, 0, T_BL_init cI cL)) := ⟨fun _ _ => rfl, fun _ _ => rfl, fun _ _ => rfl, fun _ _ => rfl, fun _ _ => rfl⟩
set_option maxHeartbeats 4000000 in
set_option maxRecDepth 100000 in
theorem C_PT_init {l : Launch} (hl : l.stackTraces = false) : zC l y_PT_init (Cond.code y_PT_init prog_1_method_1_code 1 none :: wsG) (rmL 3 9 12326) zcl false 9 12326 T_PT_init := by
  refine zC_of (G := G_PT_c) (E := E_PT_init) (X := zXn) (SL := zSn) (NW := N_PT) (CS := zCn) (ctor := true) hl (by decide) rfl rfl rfl G_PT_c_ok (fun z => rfl) (fun _ _ z => by cases z) N_PT_ok (List.mem_cons_of_mem _ ka_i) (fun _ _ _ z => by cases z) (fun _ z => by cases z) (by
    intro p e s m args below meth c D A cI cL hx hb hml hown hts hK hA hEX kd idx en hE
    unfold E_PT_init at hE
    split at hE
    · cases hE; exact zRow_obj hx hb hml hown hts (List.mem_cons_of_mem _ km_PT_1) (List.mem_cons_of_mem _ ko_i) (List.mem_cons_of_mem _ ko_c) (by decide) (by decide)
    · cases hE; exact zRow_I (C_FR_init hl) rfl hx hb hml hown hts hK hA hEX (hin_c kb_FR_init) (List.mem_cons_of_mem _ kn_FR) (List.mem_cons_of_mem _ ki_FR_init) (Or.inr ⟨_, List.mem_cons_of_mem _ km_PT_9⟩) rfl (by decide) (by decide) T_FR_init_r (by decide) rfl rfl
    · cases hE; exact zRow_I (C_SC_init hl) rfl hx hb hml hown hts hK hA hEX (hin_c kb_SC_init) (List.mem_cons_of_mem _ kn_SC) (List.mem_cons_of_mem _ ki_SC_init) (Or.inr ⟨_, List.mem_cons_of_mem _ km_PT_20⟩) rfl (by decide) (by decide) T_SC_init_r (by decide) rfl rfl
    · cases hE; exact zRow_I (C_ST_init hl) rfl hx hb hml hown hts hK hA hEX (hin_c kb_ST_init) (List.mem_cons_of_mem _ kn_ST) (List.mem_cons_of_mem _ ki_ST_init) (Or.inr ⟨_, List.mem_cons_of_mem _ km_PT_35⟩) rfl (by decide) (by decide) T_ST_init_r (by decide) rfl rfl
    · cases hE; exact zRow_I (C_BL_init hl) rfl hx hb hml hown hts hK hA hEX (hin_c kb_BL_init) (List.mem_cons_of_mem _ kn_BL) (List.mem_cons_of_mem _ ki_BL_init) (Or.inr ⟨_, List.mem_cons_of_mem _ km_PT_45⟩) rfl (by decide) (by decide) T_BL_init_r (by decide) rfl rfl
    · cases hE) ?_
  intro cI cL as h K hT
  obtain ⟨rfl, rfl, hT⟩ := hT
  simp only [hC, hR, c00] at hT
  refine ⟨by simp [Value.category], by simp, fun Jd hc => zw_sound (J := fun _ => none) hc (fun _ _ z => by cases z) 60 0 _ _ _ _ _ _ ?_⟩
  simp (maxSteps := 4000000) only [List.forall_mem_cons, List.not_mem_nil, zbk, zlc, zif0, zf3, D_PT_init, G_PT_c_k, E_PT_init_k, zT_obj, T_SC_init, T_ST_init, T_BL_init, N_PT_k, Classical.not_not, zw_S, zk_iconst, zk_bipush, zk_sipush, zk_ldc, zk_ldc_w, zk_aconst_null, zk_iload_n, zk_iload, zk_aload_n, zk_aload, zk_istore_n, zk_istore, zk_astore_n, zk_astore, zk_iinc, zk_iadd, zk_isub, zk_imul, zk_idiv, zk_iand, zk_ior, zk_ixor, zk_ishl, zk_ishr, zk_iushr, zk_i2l, zk_lcmp, zk_dup, zk_pop, zk_dup_x1, zk_dup2, zk_dup_x2, zk_goto, zk_ifCond, zk_if_icmp, zk_tableswitch, zk_getfield, zk_putfield, zk_iaload, zk_iastore, zk_laload, zk_lastore, zk_arraylength, zk_invokestatic, zk_invokevirtual, zk_invokespecial, zk_new, zk_newarray, zk_ireturn, zk_areturn, zk_return_, zi1_k, zi2_k, zr1_k, zri_k, zrii_k, zril_k, zvr_k, zl2_k, zv1_k, zv2_k, zv3_k, zli_k, zlr_k, zob_k, zai_k, zal_k, zfv_k, zlim_k, zlrm_k, zobm_k, zaim_k, zalm_k, zfvm_k, zgetf_k, zput_k, zcal_k, zrv_n, zrv_s, zswT_n, zswT_c, zgo_k, zcc_eq, zcc_ne, zcc_lt, zcc_ge, zcc_gt, zcc_le, zldj_k, zexc_k, znew_k, zial_k, zct_i, zct_l, zct_r, zct_n, zKK_r, zKK_x, znr_i, znr_0, znr_1, znr_v, znr_a, znr_o, znar_i, znar_r, znar_a, zfit_i, zfit_r, zfit_a, zbc, zlit, eq_self, List.getElem?_cons_zero, List.getElem?_cons_succ, List.set_cons_zero, List.set_cons_succ, List.take_succ_cons, List.take_zero, List.drop_succ_cons, List.drop_zero, List.reverse_cons, List.reverse_nil, List.nil_append, List.cons_append, List.append_nil, List.length_cons, List.length_nil, List.map_cons, List.map_nil, List.sum_cons, List.sum_nil, Option.toList_some, Option.toList_none, Nat.zero_add, Nat.add_zero, Bool.or_false, Bool.false_or, Bool.or_true, Bool.true_or, Bool.not_true, Bool.not_false, ge_iff_le, Fin.isValue, Fin.val_zero, Fin.val_one, Fin.val_two, true_and, and_true, true_implies, false_implies, forall_const, if_true, if_false, ite_true, ite_false, reduceIte, reduceCtorEq, true_or, or_true, and_self, implies_true, not_false_eq_true, not_true_eq_false, Nat.le_refl, Nat.zero_le, and_false, false_and, Nat.reduceAdd, Nat.reduceSub, Nat.reduceLT, Nat.reduceLeDiff, Nat.reduceMul, Nat.reduceEqDiff, Int.reduceAdd, Int.reduceNeg, Int.reduceToNat, Int.reduceLE, Int.reduceNatCast, Int.reduceSub, Int.reduceLT, Int.reduceEq, List.replicate_zero, List.replicate_succ, Int.reduceNatCast', Int32.reduceOfInt, Int32.reduceLT, Int32.reduceLE, Int32.reduceAdd, Int32.reduceSub, Int32.reduceMul, Int32.reduceToInt, Int32.reduceToNatClampNeg]
  refine ⟨[.inr (0, [.null, .null, .int 0, .int 0, .null, .null, .null, .int 0, .int 0, .null])], 1, rfl, rfl, Or.inl rfl, by simp [zb_e, zb_v], by decide, ?_⟩
  simp (maxSteps := 4000000) only [List.forall_mem_cons, List.not_mem_nil, zbk, zlc, zif0, zf3, D_PT_init, G_PT_c_k, E_PT_init_k, zT_obj, T_SC_init, T_ST_init, T_BL_init, N_PT_k, Classical.not_not, zw_S, zk_iconst, zk_bipush, zk_sipush, zk_ldc, zk_ldc_w, zk_aconst_null, zk_iload_n, zk_iload, zk_aload_n, zk_aload, zk_istore_n, zk_istore, zk_astore_n, zk_astore, zk_iinc, zk_iadd, zk_isub, zk_imul, zk_idiv, zk_iand, zk_ior, zk_ixor, zk_ishl, zk_ishr, zk_iushr, zk_i2l, zk_lcmp, zk_dup, zk_pop, zk_dup_x1, zk_dup2, zk_dup_x2, zk_goto, zk_ifCond, zk_if_icmp, zk_tableswitch, zk_getfield, zk_putfield, zk_iaload, zk_iastore, zk_laload, zk_lastore, zk_arraylength, zk_invokestatic, zk_invokevirtual, zk_invokespecial, zk_new, zk_newarray, zk_ireturn, zk_areturn, zk_return_, zi1_k, zi2_k, zr1_k, zri_k, zrii_k, zril_k, zvr_k, zl2_k, zv1_k, zv2_k, zv3_k, zli_k, zlr_k, zob_k, zai_k, zal_k, zfv_k, zlim_k, zlrm_k, zobm_k, zaim_k, zalm_k, zfvm_k, zgetf_k, zput_k, zcal_k, zrv_n, zrv_s, zswT_n, zswT_c, zgo_k, zcc_eq, zcc_ne, zcc_lt, zcc_ge, zcc_gt, zcc_le, zldj_k, zexc_k, znew_k, zial_k, zct_i, zct_l, zct_r, zct_n, zKK_r, zKK_x, znr_i, znr_0, znr_1, znr_v, znr_a, znr_o, znar_i, znar_r, znar_a, zfit_i, zfit_r, zfit_a, zbc, zlit, eq_self, List.getElem?_cons_zero, List.getElem?_cons_succ, List.set_cons_zero, List.set_cons_succ, List.take_succ_cons, List.take_zero, List.drop_succ_cons, List.drop_zero, List.reverse_cons, List.reverse_nil, List.nil_append, List.cons_append, List.append_nil, List.length_cons, List.length_nil, List.map_cons, List.map_nil, List.sum_cons, List.sum_nil, Option.toList_some, Option.toList_none, Nat.zero_add, Nat.add_zero, Bool.or_false, Bool.false_or, Bool.or_true, Bool.true_or, Bool.not_true, Bool.not_false, ge_iff_le, Fin.isValue, Fin.val_zero, Fin.val_one, Fin.val_two, true_and, and_true, true_implies, false_implies, forall_const, if_true, if_false, ite_true, ite_false, reduceIte, reduceCtorEq, true_or, or_true, and_self, implies_true, not_false_eq_true, not_true_eq_false, Nat.le_refl, Nat.zero_le, and_false, false_and, Nat.reduceAdd, Nat.reduceSub, Nat.reduceLT, Nat.reduceLeDiff, Nat.reduceMul, Nat.reduceEqDiff, Int.reduceAdd, Int.reduceNeg, Int.reduceToNat, Int.reduceLE, Int.reduceNatCast, Int.reduceSub, Int.reduceLT, Int.reduceEq, List.replicate_zero, List.replicate_succ, Int.reduceNatCast', Int32.reduceOfInt, Int32.reduceLT, Int32.reduceLE, Int32.reduceAdd, Int32.reduceSub, Int32.reduceMul, Int32.reduceToInt, Int32.reduceToNatClampNeg]
  exact ⟨rfl, rfl, hT⟩
end
section
/-- a state of PlaceTestsModel: (thrown, x0, y0, wide, high), (scissored, depthTest, depthWritten, equation, equationA, logic, mask), (channels, depths, stencils), (scissor, stencil, factors, constant), (answers, s, d) -/
abbrev mSt : Type := (Int32 × Int32 × Int32 × Int32 × Int32) × (Int32 × Int32 × Int32 × Int32 × Int32 × Int32 × Int32) × ((Nat → Int32) × (Nat → Int32) × (Nat → Int32)) × ((Nat → Int32) × (Nat → Int32) × (Nat → Int32) × (Nat → Int32)) × ((Nat → Int32) × (Nat → Int32) × (Nat → Int32))
def hP (P : Nat → va_E) (X : zH) : zH := P 0 :: P 1 :: P 2 :: P 3 :: P 4 :: P 5 :: P 6 :: P 7 :: P 8 :: P 9 :: X
theorem hP_g (P : Nat → va_E) (X : zH) (n : Nat) : (hP P X)[n + 10]? = X[n]? := by unfold hP; rfl
theorem hP_s (P : Nat → va_E) (X : zH) (n : Nat) (v : va_E) : (hP P X).set (n + 10) v = hP P (X.set n v) := by unfold hP; rfl
theorem hP_l (P : Nat → va_E) (X : zH) : (hP P X).length = X.length + 10 := by unfold hP; rfl
def hMc (cI : ClassId) (m : mSt) (r : zH) : zH := .inr (5, [.int m.1.1, .int m.1.2.1, .int m.1.2.2.1, .int m.1.2.2.2.1, .int m.1.2.2.2.2, .ref 11, .ref 12, .ref 13, .int m.2.1.1, .ref 14, .int m.2.1.2.1, .int m.2.1.2.2.1, .ref 15, .ref 16, .int m.2.1.2.2.2.1, .int m.2.1.2.2.2.2.1, .ref 17, .int m.2.1.2.2.2.2.2.1, .int m.2.1.2.2.2.2.2.2, .ref 18, .ref 19, .ref 20]) :: .inl (cI, 16384, .inl m.2.2.1.1) :: .inl (cI, 4096, .inl m.2.2.1.2.1) :: .inl (cI, 4096, .inl m.2.2.1.2.2) :: .inl (cI, 4, .inl m.2.2.2.1.1) :: .inl (cI, 14, .inl m.2.2.2.1.2.1) :: .inl (cI, 4, .inl m.2.2.2.1.2.2.1) :: .inl (cI, 4, .inl m.2.2.2.1.2.2.2) :: .inl (cI, 4, .inl m.2.2.2.2.1) :: .inl (cI, 4, .inl m.2.2.2.2.2.1) :: .inl (cI, 4, .inl m.2.2.2.2.2.2) :: r
def hM (cI : ClassId) (P : Nat → va_E) (m : mSt) (r : zH) : zH := hP P (hMc cI m r)
theorem hM_i {cI : ClassId} {P P' : Nat → va_E} {m m' : mSt} {r r' : zH} (h : hM cI P m r = hM cI P' m' r') : m = m' ∧ ∀ m'', hM cI P m'' r = hM cI P' m'' r' := by
  obtain ⟨⟨th, x0, y0, wd, hi⟩, ⟨sc, dt, dw, eq, ea, lg, wm⟩, ⟨ch, de, sn⟩, ⟨si, su, fa, cn⟩, ⟨an, vs, vd⟩⟩ := m
  obtain ⟨⟨th', x0', y0', wd', hi'⟩, ⟨sc', dt', dw', eq', ea', lg', wm'⟩, ⟨ch', de', sn'⟩, ⟨si', su', fa', cn'⟩, ⟨an', vs', vd'⟩⟩ := m'
  simp only [hM, hP, hMc, List.cons.injEq, Sum.inr.injEq, Sum.inl.injEq, Prod.mk.injEq, Value.int.injEq, true_and, and_true] at h
  obtain ⟨q0, q1, q2, q3, q4, q5, q6, q7, q8, q9, ⟨rfl, rfl, rfl, rfl, rfl, rfl, rfl, rfl, rfl, rfl, rfl, rfl⟩, rfl, rfl, rfl, rfl, rfl, rfl, rfl, rfl, rfl, rfl, rfl⟩ := h
  refine ⟨rfl, fun m'' => ?_⟩
  simp only [hM, hP, q0, q1, q2, q3, q4, q5, q6, q7, q8, q9]
def rdM (cI : ClassId) (h : zH) (f : (mSt → zH) → mSt → Prop) : Prop := ∃ P m r, h = hM cI P m r ∧ f (fun m' => hM cI P m' r) m
theorem rdM_f (cI : ClassId) (P : Nat → va_E) (m : mSt) (r : zH) (f : (mSt → zH) → mSt → Prop) : rdM cI (hM cI P m r) f = f (fun m' => hM cI P m' r) m := by
  apply propext
  constructor
  · rintro ⟨P', m', r', e, hf⟩
    obtain ⟨e1, e2⟩ := hM_i e
    subst e1
    rw [show (fun m' => hM cI P m' r) = fun m' => hM cI P' m' r' from funext e2]
    exact hf
  · exact fun h => ⟨P, m, r, rfl, h⟩
theorem rdM_k (cI : ClassId) (P : Nat → va_E) (r : zH) (f : (mSt → zH) → mSt → Prop) (th x0 y0 wd hi sc dt dw eq ea lg wm : Int32) (ch de sn si su fa cn an vs vd : Nat → Int32) : rdM cI (hP P (.inr (5, [.int th, .int x0, .int y0, .int wd, .int hi, .ref 11, .ref 12, .ref 13, .int sc, .ref 14, .int dt, .int dw, .ref 15, .ref 16, .int eq, .int ea, .ref 17, .int lg, .int wm, .ref 18, .ref 19, .ref 20]) :: .inl (cI, 16384, .inl ch) :: .inl (cI, 4096, .inl de) :: .inl (cI, 4096, .inl sn) :: .inl (cI, 4, .inl si) :: .inl (cI, 14, .inl su) :: .inl (cI, 4, .inl fa) :: .inl (cI, 4, .inl cn) :: .inl (cI, 4, .inl an) :: .inl (cI, 4, .inl vs) :: .inl (cI, 4, .inl vd) :: r)) f = f (fun m' => hM cI P m' r) ((th, x0, y0, wd, hi), (sc, dt, dw, eq, ea, lg, wm), (ch, de, sn), (si, su, fa, cn), (an, vs, vd)) := rdM_f cI P ((th, x0, y0, wd, hi), (sc, dt, dw, eq, ea, lg, wm), (ch, de, sn), (si, su, fa, cn), (an, vs, vd)) r f
theorem zKm (K : zO → zH → Prop) (f : mSt → zH) {c : Prop} [Decidable c] (a b : zO × mSt) : K (if c then a else b).1 (f (if c then a else b).2) = ((c → K a.1 (f a.2)) ∧ (¬ c → K b.1 (f b.2))) := by
  by_cases z : c
  · simp [z]
  · simp [z]
theorem zvi : (vp_in 0 4 = True) ∧ (vp_in 1 4 = True) ∧ (vp_in 2 4 = True) ∧ (vp_in 3 4 = True) ∧ (vp_in 0 14 = True) ∧ (vp_in 1 14 = True) ∧ (vp_in 2 14 = True) ∧ (vp_in 3 14 = True) ∧ (vp_in 4 14 = True) ∧ (vp_in 5 14 = True) ∧ (vp_in 6 14 = True) ∧ (vp_in 7 14 = True) ∧ (vp_in 8 14 = True) ∧ (vp_in 9 14 = True) ∧ (vp_in 10 14 = True) ∧ (vp_in 11 14 = True) ∧ (vp_in 12 14 = True) ∧ (vp_in 13 14 = True) := ⟨eq_true (by rw [vp_in_iff]; decide), eq_true (by rw [vp_in_iff]; decide), eq_true (by rw [vp_in_iff]; decide), eq_true (by rw [vp_in_iff]; decide), eq_true (by rw [vp_in_iff]; decide), eq_true (by rw [vp_in_iff]; decide), eq_true (by rw [vp_in_iff]; decide), eq_true (by rw [vp_in_iff]; decide), eq_true (by rw [vp_in_iff]; decide), eq_true (by rw [vp_in_iff]; decide), eq_true (by rw [vp_in_iff]; decide), eq_true (by rw [vp_in_iff]; decide), eq_true (by rw [vp_in_iff]; decide), eq_true (by rw [vp_in_iff]; decide), eq_true (by rw [vp_in_iff]; decide), eq_true (by rw [vp_in_iff]; decide), eq_true (by rw [vp_in_iff]; decide), eq_true (by rw [vp_in_iff]; decide)⟩
theorem zl2' : ((1 : Int32) = 0) = False ∧ ((0 : Int32) = 1) = False := ⟨by decide, by decide⟩

def T_MO_in : ClassId → ClassId → zT := fun _ _ as h K => match as with
  | [.int n, .int a, .int b] => K (.inl (some (.int (f_wi n a b)))) h
  | _ => False
set_option maxHeartbeats 4000000 in
set_option maxRecDepth 100000 in
theorem C_MO_in {l : Launch} (hl : l.stackTraces = false) : zC l y_MO_in (Cond.code y_MO_in prog_8_method_4_code 3 (some .boolean) :: wsG) (rmL 1 0 0) zcl true 0 0 T_MO_in := by
  refine zC_of (G := zGn) (E := zEn0) (X := zXn) (SL := zSn) (NW := zNn) (CS := zCn) (ctor := false) hl (by decide) rfl rfl rfl (fun _ _ _ _ _ z => by cases z) (fun z => by cases z) (fun _ _ z => by cases z) (fun _ _ _ _ z => by cases z) (List.mem_cons_of_mem _ ka_i) (fun _ _ _ z => by cases z) (fun _ z => by cases z) (fun _ _ _ _ _ _ _ _ _ _ _ _ _ _ _ _ _ _ _ _ _ _ _ z => by cases z) ?_
  intro cI cL as h K hT
  match as, hT with
  | [.int n, .int a, .int b], hT =>
  have hT : K (.inl (some (.int (f_wi n a b)))) h := hT
  refine ⟨by simp [Value.category], by simp, fun Jd hc => zw_sound (J := fun _ => none) hc (fun _ _ z => by cases z) 15 0 _ _ _ _ _ _ ?_⟩
  simp (maxSteps := 4000000) only [zlc, zif0, zf3, D_MO_in, Classical.not_not, zw_S, zk_iconst, zk_bipush, zk_sipush, zk_ldc, zk_ldc_w, zk_aconst_null, zk_iload_n, zk_iload, zk_aload_n, zk_aload, zk_istore_n, zk_istore, zk_astore_n, zk_astore, zk_iinc, zk_iadd, zk_isub, zk_imul, zk_idiv, zk_iand, zk_ior, zk_ixor, zk_ishl, zk_ishr, zk_iushr, zk_i2l, zk_lcmp, zk_dup, zk_pop, zk_dup_x1, zk_dup2, zk_dup_x2, zk_goto, zk_ifCond, zk_if_icmp, zk_tableswitch, zk_getfield, zk_putfield, zk_iaload, zk_iastore, zk_laload, zk_lastore, zk_arraylength, zk_invokestatic, zk_invokevirtual, zk_invokespecial, zk_new, zk_newarray, zk_ireturn, zk_areturn, zk_return_, zi1_k, zi2_k, zr1_k, zri_k, zrii_k, zril_k, zvr_k, zl2_k, zv1_k, zv2_k, zv3_k, zli_k, zlr_k, zob_k, zai_k, zal_k, zfv_k, zlim_k, zlrm_k, zobm_k, zaim_k, zalm_k, zfvm_k, zgetf_k, zput_k, zcal_k, zrv_n, zrv_s, zswT_n, zswT_c, zgo_k, zcc_eq, zcc_ne, zcc_lt, zcc_ge, zcc_gt, zcc_le, zldj_k, zexc_k, znew_k, zial_k, zct_i, zct_l, zct_r, zct_n, zKK_r, zKK_x, znr_i, znr_0, znr_1, znr_v, znr_a, znr_o, znar_i, znar_r, znar_a, zfit_i, zfit_r, zfit_a, zbc, zlit, eq_self, List.getElem?_cons_zero, List.getElem?_cons_succ, List.set_cons_zero, List.set_cons_succ, List.take_succ_cons, List.take_zero, List.drop_succ_cons, List.drop_zero, List.reverse_cons, List.reverse_nil, List.nil_append, List.cons_append, List.append_nil, List.length_cons, List.length_nil, List.map_cons, List.map_nil, List.sum_cons, List.sum_nil, Option.toList_some, Option.toList_none, Nat.zero_add, Nat.add_zero, Bool.or_false, Bool.false_or, Bool.or_true, Bool.true_or, Bool.not_true, Bool.not_false, ge_iff_le, Fin.isValue, Fin.val_zero, Fin.val_one, Fin.val_two, true_and, and_true, true_implies, false_implies, forall_const, if_true, if_false, ite_true, ite_false, reduceIte, reduceCtorEq, true_or, or_true, and_self, implies_true, not_false_eq_true, not_true_eq_false, Nat.le_refl, Nat.zero_le, and_false, false_and, Nat.reduceAdd, Nat.reduceSub, Nat.reduceLT, Nat.reduceLeDiff, Nat.reduceMul, Nat.reduceEqDiff, Int.reduceAdd, Int.reduceNeg, Int.reduceToNat, Int.reduceLE, Int.reduceNatCast, Int.reduceSub, Int.reduceLT, Int.reduceEq, List.replicate_zero, List.replicate_succ, Int.reduceNatCast', Int32.reduceOfInt, Int32.reduceLT, Int32.reduceLE, Int32.reduceAdd, Int32.reduceSub, Int32.reduceMul, Int32.reduceToInt, Int32.reduceToNatClampNeg]
  repeat' (first | (intro _) | (apply And.intro))
  all_goals (first | exact hT | (simp only [f_wi, *, if_true, if_false, reduceIte, not_true_eq_false, not_false_eq_true] at hT; exact hT) | (simp [f_wi, *] at hT; exact hT) | (simp [f_wi, *] at hT ⊢; exact hT) | (simp_all [f_wi]; done))
def g_deed (w o v : Int32) : Int32 := if w = 0 then o else if w = 1 then 0 else if w = 2 then v else if w = 3 then (if ¬ o = 255 then o + 1 else 255) else if w = 4 then (if ¬ o = 0 then o - 1 else 0) else if w = 5 then 255 - o else if w = 6 then (if ¬ o = 255 then o + 1 else 0) else (if ¬ o = 0 then o - 1 else 255)
def T_MO_deed : ClassId → ClassId → zT := fun _ _ as h K => match as with
  | [.int w, .int o, .int v] => K (.inl (some (.int (g_deed w o v)))) h
  | _ => False
set_option maxHeartbeats 4000000 in
set_option maxRecDepth 100000 in
theorem C_MO_deed {l : Launch} (hl : l.stackTraces = false) : zC l y_MO_deed (Cond.code y_MO_deed prog_8_method_19_code 3 (some .int) :: wsG) (rmL 1 0 0) zcl true 0 0 T_MO_deed := by
  refine zC_of (G := zGn) (E := zEn0) (X := zXn) (SL := zSn) (NW := zNn) (CS := zCn) (ctor := false) hl (by decide) rfl rfl rfl (fun _ _ _ _ _ z => by cases z) (fun z => by cases z) (fun _ _ z => by cases z) (fun _ _ _ _ z => by cases z) (List.mem_cons_of_mem _ ka_i) (fun _ _ _ z => by cases z) (fun _ z => by cases z) (fun _ _ _ _ _ _ _ _ _ _ _ _ _ _ _ _ _ _ _ _ _ _ _ z => by cases z) ?_
  intro cI cL as h K hT
  match as, hT with
  | [.int w, .int o, .int v], hT =>
  have hT : K (.inl (some (.int (g_deed w o v)))) h := hT
  refine ⟨by simp [Value.category], by simp, fun Jd hc => zw_sound (J := fun _ => none) hc (fun _ _ z => by cases z) 51 0 _ _ _ _ _ _ ?_⟩
  simp (maxSteps := 4000000) only [zlc, zif0, zf3, D_MO_deed, zti, Classical.not_not, zw_S, zk_iconst, zk_bipush, zk_sipush, zk_ldc, zk_ldc_w, zk_aconst_null, zk_iload_n, zk_iload, zk_aload_n, zk_aload, zk_istore_n, zk_istore, zk_astore_n, zk_astore, zk_iinc, zk_iadd, zk_isub, zk_imul, zk_idiv, zk_iand, zk_ior, zk_ixor, zk_ishl, zk_ishr, zk_iushr, zk_i2l, zk_lcmp, zk_dup, zk_pop, zk_dup_x1, zk_dup2, zk_dup_x2, zk_goto, zk_ifCond, zk_if_icmp, zk_tableswitch, zk_getfield, zk_putfield, zk_iaload, zk_iastore, zk_laload, zk_lastore, zk_arraylength, zk_invokestatic, zk_invokevirtual, zk_invokespecial, zk_new, zk_newarray, zk_ireturn, zk_areturn, zk_return_, zi1_k, zi2_k, zr1_k, zri_k, zrii_k, zril_k, zvr_k, zl2_k, zv1_k, zv2_k, zv3_k, zli_k, zlr_k, zob_k, zai_k, zal_k, zfv_k, zlim_k, zlrm_k, zobm_k, zaim_k, zalm_k, zfvm_k, zgetf_k, zput_k, zcal_k, zrv_n, zrv_s, zswT_n, zswT_c, zgo_k, zcc_eq, zcc_ne, zcc_lt, zcc_ge, zcc_gt, zcc_le, zldj_k, zexc_k, znew_k, zial_k, zct_i, zct_l, zct_r, zct_n, zKK_r, zKK_x, znr_i, znr_0, znr_1, znr_v, znr_a, znr_o, znar_i, znar_r, znar_a, zfit_i, zfit_r, zfit_a, zbc, zlit, eq_self, List.getElem?_cons_zero, List.getElem?_cons_succ, List.set_cons_zero, List.set_cons_succ, List.take_succ_cons, List.take_zero, List.drop_succ_cons, List.drop_zero, List.reverse_cons, List.reverse_nil, List.nil_append, List.cons_append, List.append_nil, List.length_cons, List.length_nil, List.map_cons, List.map_nil, List.sum_cons, List.sum_nil, Option.toList_some, Option.toList_none, Nat.zero_add, Nat.add_zero, Bool.or_false, Bool.false_or, Bool.or_true, Bool.true_or, Bool.not_true, Bool.not_false, ge_iff_le, Fin.isValue, Fin.val_zero, Fin.val_one, Fin.val_two, true_and, and_true, true_implies, false_implies, forall_const, if_true, if_false, ite_true, ite_false, reduceIte, reduceCtorEq, true_or, or_true, and_self, implies_true, not_false_eq_true, not_true_eq_false, Nat.le_refl, Nat.zero_le, and_false, false_and, Nat.reduceAdd, Nat.reduceSub, Nat.reduceLT, Nat.reduceLeDiff, Nat.reduceMul, Nat.reduceEqDiff, Int.reduceAdd, Int.reduceNeg, Int.reduceToNat, Int.reduceLE, Int.reduceNatCast, Int.reduceSub, Int.reduceLT, Int.reduceEq, List.replicate_zero, List.replicate_succ, Int.reduceNatCast', Int32.reduceOfInt, Int32.reduceLT, Int32.reduceLE, Int32.reduceAdd, Int32.reduceSub, Int32.reduceMul, Int32.reduceToInt, Int32.reduceToNatClampNeg]
  simp only [g_deed, zKi K, Classical.not_not] at hT ⊢
  exact hT
def g_by (x : Int32) : Int32 := if 0 ≤ x then (if x ≤ 65536 then (255 * x + 32768) / 65536 else (255 * 65536 + 32768) / 65536) else (255 * 0 + 32768) / 65536
def T_MO_byteOf : ClassId → ClassId → zT := fun _ _ as h K => match as with
  | [.int x] => K (.inl (some (.int (g_by x)))) h
  | _ => False
set_option maxHeartbeats 4000000 in
set_option maxRecDepth 100000 in
theorem C_MO_byteOf {l : Launch} (hl : l.stackTraces = false) : zC l y_MO_byteOf (Cond.code y_MO_byteOf prog_8_method_21_code 2 (some .int) :: wsG) (rmL 1 0 0) zcl true 0 0 T_MO_byteOf := by
  refine zC_of (G := zGn) (E := zEn0) (X := zXn) (SL := zSn) (NW := zNn) (CS := CS_MO) (ctor := false) hl (by decide) rfl rfl rfl (fun _ _ _ _ _ z => by cases z) (fun z => by cases z) CS_MO_ok (fun _ _ _ _ z => by cases z) (List.mem_cons_of_mem _ ka_i) (fun _ _ _ z => by cases z) (fun _ z => by cases z) (fun _ _ _ _ _ _ _ _ _ _ _ _ _ _ _ _ _ _ _ _ _ _ _ z => by cases z) ?_
  intro cI cL as h K hT
  match as, hT with
  | [.int x], hT =>
  have hT : K (.inl (some (.int (g_by x)))) h := hT
  refine ⟨by simp [Value.category], by simp, fun Jd hc => zw_sound (J := fun _ => none) hc (fun _ _ z => by cases z) 24 0 _ _ _ _ _ _ ?_⟩
  simp (maxSteps := 4000000) only [zlc, zif0, zf3, D_MO_byteOf, CS_MO_k, Classical.not_not, zw_S, zk_iconst, zk_bipush, zk_sipush, zk_ldc, zk_ldc_w, zk_aconst_null, zk_iload_n, zk_iload, zk_aload_n, zk_aload, zk_istore_n, zk_istore, zk_astore_n, zk_astore, zk_iinc, zk_iadd, zk_isub, zk_imul, zk_idiv, zk_iand, zk_ior, zk_ixor, zk_ishl, zk_ishr, zk_iushr, zk_i2l, zk_lcmp, zk_dup, zk_pop, zk_dup_x1, zk_dup2, zk_dup_x2, zk_goto, zk_ifCond, zk_if_icmp, zk_tableswitch, zk_getfield, zk_putfield, zk_iaload, zk_iastore, zk_laload, zk_lastore, zk_arraylength, zk_invokestatic, zk_invokevirtual, zk_invokespecial, zk_new, zk_newarray, zk_ireturn, zk_areturn, zk_return_, zi1_k, zi2_k, zr1_k, zri_k, zrii_k, zril_k, zvr_k, zl2_k, zv1_k, zv2_k, zv3_k, zli_k, zlr_k, zob_k, zai_k, zal_k, zfv_k, zlim_k, zlrm_k, zobm_k, zaim_k, zalm_k, zfvm_k, zgetf_k, zput_k, zcal_k, zrv_n, zrv_s, zswT_n, zswT_c, zgo_k, zcc_eq, zcc_ne, zcc_lt, zcc_ge, zcc_gt, zcc_le, zldj_k, zexc_k, znew_k, zial_k, zct_i, zct_l, zct_r, zct_n, zKK_r, zKK_x, znr_i, znr_0, znr_1, znr_v, znr_a, znr_o, znar_i, znar_r, znar_a, zfit_i, zfit_r, zfit_a, zbc, zlit, eq_self, List.getElem?_cons_zero, List.getElem?_cons_succ, List.set_cons_zero, List.set_cons_succ, List.take_succ_cons, List.take_zero, List.drop_succ_cons, List.drop_zero, List.reverse_cons, List.reverse_nil, List.nil_append, List.cons_append, List.append_nil, List.length_cons, List.length_nil, List.map_cons, List.map_nil, List.sum_cons, List.sum_nil, Option.toList_some, Option.toList_none, Nat.zero_add, Nat.add_zero, Bool.or_false, Bool.false_or, Bool.or_true, Bool.true_or, Bool.not_true, Bool.not_false, ge_iff_le, Fin.isValue, Fin.val_zero, Fin.val_one, Fin.val_two, true_and, and_true, true_implies, false_implies, forall_const, if_true, if_false, ite_true, ite_false, reduceIte, reduceCtorEq, true_or, or_true, and_self, implies_true, not_false_eq_true, not_true_eq_false, Nat.le_refl, Nat.zero_le, and_false, false_and, Nat.reduceAdd, Nat.reduceSub, Nat.reduceLT, Nat.reduceLeDiff, Nat.reduceMul, Nat.reduceEqDiff, Int.reduceAdd, Int.reduceNeg, Int.reduceToNat, Int.reduceLE, Int.reduceNatCast, Int.reduceSub, Int.reduceLT, Int.reduceEq, List.replicate_zero, List.replicate_succ, Int.reduceNatCast', Int32.reduceOfInt, Int32.reduceLT, Int32.reduceLE, Int32.reduceAdd, Int32.reduceSub, Int32.reduceMul, Int32.reduceToInt, Int32.reduceToNatClampNeg]
  have e1 : ¬ (65536 : Int32) = 0 := by decide
  repeat' (first | (intro _) | (apply And.intro))
  all_goals (first | exact e1 | (simp only [g_by, *, if_true, if_false, reduceIte, not_true_eq_false, not_false_eq_true] at hT; exact hT) | (simp_all [g_by]; done))
def g_nr (v : Int32) : Int32 := if 0 ≤ v then (if (2 * v + 255) / 510 ≤ 255 then (2 * v + 255) / 510 else 255) else (if (0 : Int32) ≤ 255 then 0 else 255)
def T_MO_nearest : ClassId → ClassId → zT := fun _ _ as h K => match as with
  | [.int v] => K (.inl (some (.int (g_nr v)))) h
  | _ => False
set_option maxHeartbeats 4000000 in
set_option maxRecDepth 100000 in
theorem C_MO_nearest {l : Launch} (hl : l.stackTraces = false) : zC l y_MO_nearest (Cond.code y_MO_nearest prog_8_method_23_code 2 (some .int) :: wsG) (rmL 1 0 0) zcl true 0 0 T_MO_nearest := by
  refine zC_of (G := zGn) (E := zEn0) (X := zXn) (SL := zSn) (NW := zNn) (CS := zCn) (ctor := false) hl (by decide) rfl rfl rfl (fun _ _ _ _ _ z => by cases z) (fun z => by cases z) (fun _ _ z => by cases z) (fun _ _ _ _ z => by cases z) (List.mem_cons_of_mem _ ka_i) (fun _ _ _ z => by cases z) (fun _ z => by cases z) (fun _ _ _ _ _ _ _ _ _ _ _ _ _ _ _ _ _ _ _ _ _ _ _ z => by cases z) ?_
  intro cI cL as h K hT
  match as, hT with
  | [.int v], hT =>
  have hT : K (.inl (some (.int (g_nr v)))) h := hT
  refine ⟨by simp [Value.category], by simp, fun Jd hc => zw_sound (J := fun _ => none) hc (fun _ _ z => by cases z) 24 0 _ _ _ _ _ _ ?_⟩
  simp (maxSteps := 4000000) only [zlc, zif0, zf3, D_MO_nearest, Classical.not_not, zw_S, zk_iconst, zk_bipush, zk_sipush, zk_ldc, zk_ldc_w, zk_aconst_null, zk_iload_n, zk_iload, zk_aload_n, zk_aload, zk_istore_n, zk_istore, zk_astore_n, zk_astore, zk_iinc, zk_iadd, zk_isub, zk_imul, zk_idiv, zk_iand, zk_ior, zk_ixor, zk_ishl, zk_ishr, zk_iushr, zk_i2l, zk_lcmp, zk_dup, zk_pop, zk_dup_x1, zk_dup2, zk_dup_x2, zk_goto, zk_ifCond, zk_if_icmp, zk_tableswitch, zk_getfield, zk_putfield, zk_iaload, zk_iastore, zk_laload, zk_lastore, zk_arraylength, zk_invokestatic, zk_invokevirtual, zk_invokespecial, zk_new, zk_newarray, zk_ireturn, zk_areturn, zk_return_, zi1_k, zi2_k, zr1_k, zri_k, zrii_k, zril_k, zvr_k, zl2_k, zv1_k, zv2_k, zv3_k, zli_k, zlr_k, zob_k, zai_k, zal_k, zfv_k, zlim_k, zlrm_k, zobm_k, zaim_k, zalm_k, zfvm_k, zgetf_k, zput_k, zcal_k, zrv_n, zrv_s, zswT_n, zswT_c, zgo_k, zcc_eq, zcc_ne, zcc_lt, zcc_ge, zcc_gt, zcc_le, zldj_k, zexc_k, znew_k, zial_k, zct_i, zct_l, zct_r, zct_n, zKK_r, zKK_x, znr_i, znr_0, znr_1, znr_v, znr_a, znr_o, znar_i, znar_r, znar_a, zfit_i, zfit_r, zfit_a, zbc, zlit, eq_self, List.getElem?_cons_zero, List.getElem?_cons_succ, List.set_cons_zero, List.set_cons_succ, List.take_succ_cons, List.take_zero, List.drop_succ_cons, List.drop_zero, List.reverse_cons, List.reverse_nil, List.nil_append, List.cons_append, List.append_nil, List.length_cons, List.length_nil, List.map_cons, List.map_nil, List.sum_cons, List.sum_nil, Option.toList_some, Option.toList_none, Nat.zero_add, Nat.add_zero, Bool.or_false, Bool.false_or, Bool.or_true, Bool.true_or, Bool.not_true, Bool.not_false, ge_iff_le, Fin.isValue, Fin.val_zero, Fin.val_one, Fin.val_two, true_and, and_true, true_implies, false_implies, forall_const, if_true, if_false, ite_true, ite_false, reduceIte, reduceCtorEq, true_or, or_true, and_self, implies_true, not_false_eq_true, not_true_eq_false, Nat.le_refl, Nat.zero_le, and_false, false_and, Nat.reduceAdd, Nat.reduceSub, Nat.reduceLT, Nat.reduceLeDiff, Nat.reduceMul, Nat.reduceEqDiff, Int.reduceAdd, Int.reduceNeg, Int.reduceToNat, Int.reduceLE, Int.reduceNatCast, Int.reduceSub, Int.reduceLT, Int.reduceEq, List.replicate_zero, List.replicate_succ, Int.reduceNatCast', Int32.reduceOfInt, Int32.reduceLT, Int32.reduceLE, Int32.reduceAdd, Int32.reduceSub, Int32.reduceMul, Int32.reduceToInt, Int32.reduceToNatClampNeg]
  have e1 : ¬ (510 : Int32) = 0 := by decide
  repeat' (first | (intro _) | (apply And.intro))
  all_goals (first | exact e1 | (simp only [g_nr, *, if_true, if_false, reduceIte, not_true_eq_false, not_false_eq_true] at hT; exact hT) | (simp_all [g_nr]; done))
end
section
def g_MO_thrown (m : mSt) : Int32 := match m with
  | ((th, x0, y0, wd, hi), (sc, dt, dw, eq, ea, lg, wm), (ch, de, sn), (si, su, fa, cn), (an, vs, vd)) => th
def T_MO_thrown : ClassId → ClassId → zT := fun cI _ as h K => match as with
  | [.ref 10] => rdM cI h (fun put m => K (.inl (some (.int (g_MO_thrown m)))) (put m))
  | _ => False
set_option maxHeartbeats 4000000 in
set_option maxRecDepth 100000 in
theorem C_MO_thrown {l : Launch} (hl : l.stackTraces = false) : zC l y_MO_thrown (Cond.code y_MO_thrown prog_8_method_2_code 1 (some .int) :: wsG) (rmL 1 0 0) zcl true 0 0 T_MO_thrown := by
  refine zC_of (G := G_MO) (E := zEn0) (X := zXn) (SL := zSn) (NW := zNn) (CS := zCn) (ctor := false) hl (by decide) rfl rfl rfl G_MO_ok (fun z => by cases z) (fun _ _ z => by cases z) (fun _ _ _ _ z => by cases z) (List.mem_cons_of_mem _ ka_i) (fun _ _ _ z => by cases z) (fun _ z => by cases z) (fun _ _ _ _ _ _ _ _ _ _ _ _ _ _ _ _ _ _ _ _ _ _ _ z => by cases z) ?_
  intro cI cL as h K hT
  match as, hT with
  | [.ref 10], hT =>
  obtain ⟨P, ⟨⟨th, x0, y0, wd, hi⟩, ⟨sc, dt, dw, eq, ea, lg, wm⟩, ⟨ch, de, sn⟩, ⟨si, su, fa, cn⟩, ⟨an, vs, vd⟩⟩, r, rfl, hU⟩ := hT
  replace hT := hU
  clear hU
  refine ⟨by simp [Value.category], by simp, fun Jd hc => zw_sound (J := fun _ => none) hc (fun _ _ z => by cases z) 8 0 _ _ _ _ _ _ ?_⟩
  simp (maxSteps := 4000000) only [zlc, zif0, zf3, D_MO_thrown, G_MO_k, hM, hMc, hP_g, hP_s, hP_l, rdM_k, zvi, Classical.not_not, zw_S, zk_iconst, zk_bipush, zk_sipush, zk_ldc, zk_ldc_w, zk_aconst_null, zk_iload_n, zk_iload, zk_aload_n, zk_aload, zk_istore_n, zk_istore, zk_astore_n, zk_astore, zk_iinc, zk_iadd, zk_isub, zk_imul, zk_idiv, zk_iand, zk_ior, zk_ixor, zk_ishl, zk_ishr, zk_iushr, zk_i2l, zk_lcmp, zk_dup, zk_pop, zk_dup_x1, zk_dup2, zk_dup_x2, zk_goto, zk_ifCond, zk_if_icmp, zk_tableswitch, zk_getfield, zk_putfield, zk_iaload, zk_iastore, zk_laload, zk_lastore, zk_arraylength, zk_invokestatic, zk_invokevirtual, zk_invokespecial, zk_new, zk_newarray, zk_ireturn, zk_areturn, zk_return_, zi1_k, zi2_k, zr1_k, zri_k, zrii_k, zril_k, zvr_k, zl2_k, zv1_k, zv2_k, zv3_k, zli_k, zlr_k, zob_k, zai_k, zal_k, zfv_k, zlim_k, zlrm_k, zobm_k, zaim_k, zalm_k, zfvm_k, zgetf_k, zput_k, zcal_k, zrv_n, zrv_s, zswT_n, zswT_c, zgo_k, zcc_eq, zcc_ne, zcc_lt, zcc_ge, zcc_gt, zcc_le, zldj_k, zexc_k, znew_k, zial_k, zct_i, zct_l, zct_r, zct_n, zKK_r, zKK_x, znr_i, znr_0, znr_1, znr_v, znr_a, znr_o, znar_i, znar_r, znar_a, zfit_i, zfit_r, zfit_a, zbc, zlit, eq_self, List.getElem?_cons_zero, List.getElem?_cons_succ, List.set_cons_zero, List.set_cons_succ, List.take_succ_cons, List.take_zero, List.drop_succ_cons, List.drop_zero, List.reverse_cons, List.reverse_nil, List.nil_append, List.cons_append, List.append_nil, List.length_cons, List.length_nil, List.map_cons, List.map_nil, List.sum_cons, List.sum_nil, Option.toList_some, Option.toList_none, Nat.zero_add, Nat.add_zero, Bool.or_false, Bool.false_or, Bool.or_true, Bool.true_or, Bool.not_true, Bool.not_false, ge_iff_le, Fin.isValue, Fin.val_zero, Fin.val_one, Fin.val_two, true_and, and_true, true_implies, false_implies, forall_const, if_true, if_false, ite_true, ite_false, reduceIte, reduceCtorEq, true_or, or_true, and_self, implies_true, not_false_eq_true, not_true_eq_false, Nat.le_refl, Nat.zero_le, and_false, false_and, Nat.reduceAdd, Nat.reduceSub, Nat.reduceLT, Nat.reduceLeDiff, Nat.reduceMul, Nat.reduceEqDiff, Int.reduceAdd, Int.reduceNeg, Int.reduceToNat, Int.reduceLE, Int.reduceNatCast, Int.reduceSub, Int.reduceLT, Int.reduceEq, List.replicate_zero, List.replicate_succ, Int.reduceNatCast', Int32.reduceOfInt, Int32.reduceLT, Int32.reduceLE, Int32.reduceAdd, Int32.reduceSub, Int32.reduceMul, Int32.reduceToInt, Int32.reduceToNatClampNeg]
  replace hT : K (.inl (some (.int (g_MO_thrown ((th, x0, y0, wd, hi), (sc, dt, dw, eq, ea, lg, wm), (ch, de, sn), (si, su, fa, cn), (an, vs, vd)))))) (hM cI P ((th, x0, y0, wd, hi), (sc, dt, dw, eq, ea, lg, wm), (ch, de, sn), (si, su, fa, cn), (an, vs, vd)) r) := hT
  simp only [g_MO_thrown, zKi K, Classical.not_not, hM, hMc] at hT
  exact hT
def g_MO_isInFrame (m : mSt) (x y : Int32) : Int32 := match m with
  | ((th, x0, y0, wd, hi), (sc, dt, dw, eq, ea, lg, wm), (ch, de, sn), (si, su, fa, cn), (an, vs, vd)) => f_has x0 y0 wd hi x y
def T_MO_isInFrame : ClassId → ClassId → zT := fun cI _ as h K => match as with
  | [.ref 10, .int x, .int y] => rdM cI h (fun put m => K (.inl (some (.int (g_MO_isInFrame m x y)))) (put m))
  | _ => False
set_option maxHeartbeats 4000000 in
set_option maxRecDepth 100000 in
theorem C_MO_isInFrame {l : Launch} (hl : l.stackTraces = false) : zC l y_MO_isInFrame (Cond.code y_MO_isInFrame prog_8_method_13_code 3 (some .boolean) :: wsG) (rmL 1 0 0) zcl true 0 0 T_MO_isInFrame := by
  refine zC_of (G := G_MO) (E := zEn0) (X := zXn) (SL := zSn) (NW := zNn) (CS := zCn) (ctor := false) hl (by decide) rfl rfl rfl G_MO_ok (fun z => by cases z) (fun _ _ z => by cases z) (fun _ _ _ _ z => by cases z) (List.mem_cons_of_mem _ ka_i) (fun _ _ _ z => by cases z) (fun _ z => by cases z) (fun _ _ _ _ _ _ _ _ _ _ _ _ _ _ _ _ _ _ _ _ _ _ _ z => by cases z) ?_
  intro cI cL as h K hT
  match as, hT with
  | [.ref 10, .int x, .int y], hT =>
  obtain ⟨P, ⟨⟨th, x0, y0, wd, hi⟩, ⟨sc, dt, dw, eq, ea, lg, wm⟩, ⟨ch, de, sn⟩, ⟨si, su, fa, cn⟩, ⟨an, vs, vd⟩⟩, r, rfl, hU⟩ := hT
  replace hT := hU
  clear hU
  refine ⟨by simp [Value.category], by simp, fun Jd hc => zw_sound (J := fun _ => none) hc (fun _ _ z => by cases z) 31 0 _ _ _ _ _ _ ?_⟩
  simp (maxSteps := 4000000) only [zlc, zif0, zf3, D_MO_isInFrame, G_MO_k, hM, hMc, hP_g, hP_s, hP_l, rdM_k, zvi, Classical.not_not, zw_S, zk_iconst, zk_bipush, zk_sipush, zk_ldc, zk_ldc_w, zk_aconst_null, zk_iload_n, zk_iload, zk_aload_n, zk_aload, zk_istore_n, zk_istore, zk_astore_n, zk_astore, zk_iinc, zk_iadd, zk_isub, zk_imul, zk_idiv, zk_iand, zk_ior, zk_ixor, zk_ishl, zk_ishr, zk_iushr, zk_i2l, zk_lcmp, zk_dup, zk_pop, zk_dup_x1, zk_dup2, zk_dup_x2, zk_goto, zk_ifCond, zk_if_icmp, zk_tableswitch, zk_getfield, zk_putfield, zk_iaload, zk_iastore, zk_laload, zk_lastore, zk_arraylength, zk_invokestatic, zk_invokevirtual, zk_invokespecial, zk_new, zk_newarray, zk_ireturn, zk_areturn, zk_return_, zi1_k, zi2_k, zr1_k, zri_k, zrii_k, zril_k, zvr_k, zl2_k, zv1_k, zv2_k, zv3_k, zli_k, zlr_k, zob_k, zai_k, zal_k, zfv_k, zlim_k, zlrm_k, zobm_k, zaim_k, zalm_k, zfvm_k, zgetf_k, zput_k, zcal_k, zrv_n, zrv_s, zswT_n, zswT_c, zgo_k, zcc_eq, zcc_ne, zcc_lt, zcc_ge, zcc_gt, zcc_le, zldj_k, zexc_k, znew_k, zial_k, zct_i, zct_l, zct_r, zct_n, zKK_r, zKK_x, znr_i, znr_0, znr_1, znr_v, znr_a, znr_o, znar_i, znar_r, znar_a, zfit_i, zfit_r, zfit_a, zbc, zlit, eq_self, List.getElem?_cons_zero, List.getElem?_cons_succ, List.set_cons_zero, List.set_cons_succ, List.take_succ_cons, List.take_zero, List.drop_succ_cons, List.drop_zero, List.reverse_cons, List.reverse_nil, List.nil_append, List.cons_append, List.append_nil, List.length_cons, List.length_nil, List.map_cons, List.map_nil, List.sum_cons, List.sum_nil, Option.toList_some, Option.toList_none, Nat.zero_add, Nat.add_zero, Bool.or_false, Bool.false_or, Bool.or_true, Bool.true_or, Bool.not_true, Bool.not_false, ge_iff_le, Fin.isValue, Fin.val_zero, Fin.val_one, Fin.val_two, true_and, and_true, true_implies, false_implies, forall_const, if_true, if_false, ite_true, ite_false, reduceIte, reduceCtorEq, true_or, or_true, and_self, implies_true, not_false_eq_true, not_true_eq_false, Nat.le_refl, Nat.zero_le, and_false, false_and, Nat.reduceAdd, Nat.reduceSub, Nat.reduceLT, Nat.reduceLeDiff, Nat.reduceMul, Nat.reduceEqDiff, Int.reduceAdd, Int.reduceNeg, Int.reduceToNat, Int.reduceLE, Int.reduceNatCast, Int.reduceSub, Int.reduceLT, Int.reduceEq, List.replicate_zero, List.replicate_succ, Int.reduceNatCast', Int32.reduceOfInt, Int32.reduceLT, Int32.reduceLE, Int32.reduceAdd, Int32.reduceSub, Int32.reduceMul, Int32.reduceToInt, Int32.reduceToNatClampNeg]
  repeat' (first | (intro _) | (apply And.intro))
  all_goals (first | exact hT | (simp only [g_MO_isInFrame, f_has, hM, hMc, *, if_true, if_false, reduceIte, not_true_eq_false, not_false_eq_true] at hT; exact hT) | (simp [g_MO_isInFrame, f_has, hM, hMc, *] at hT; exact hT) | (simp [g_MO_isInFrame, f_has, hM, hMc, *] at hT ⊢; exact hT) | (simp_all [g_MO_isInFrame, f_has, hM, hMc]; done))
def g_MO_placeOf (m : mSt) (x y : Int32) : Int32 := match m with
  | ((th, x0, y0, wd, hi), (sc, dt, dw, eq, ea, lg, wm), (ch, de, sn), (si, su, fa, cn), (an, vs, vd)) => (y - y0) * wd + x - x0
def T_MO_placeOf : ClassId → ClassId → zT := fun cI _ as h K => match as with
  | [.ref 10, .int x, .int y] => rdM cI h (fun put m => K (.inl (some (.int (g_MO_placeOf m x y)))) (put m))
  | _ => False
set_option maxHeartbeats 4000000 in
set_option maxRecDepth 100000 in
theorem C_MO_placeOf {l : Launch} (hl : l.stackTraces = false) : zC l y_MO_placeOf (Cond.code y_MO_placeOf prog_8_method_15_code 3 (some .int) :: wsG) (rmL 1 0 0) zcl true 0 0 T_MO_placeOf := by
  refine zC_of (G := G_MO) (E := zEn0) (X := zXn) (SL := zSn) (NW := zNn) (CS := zCn) (ctor := false) hl (by decide) rfl rfl rfl G_MO_ok (fun z => by cases z) (fun _ _ z => by cases z) (fun _ _ _ _ z => by cases z) (List.mem_cons_of_mem _ ka_i) (fun _ _ _ z => by cases z) (fun _ z => by cases z) (fun _ _ _ _ _ _ _ _ _ _ _ _ _ _ _ _ _ _ _ _ _ _ _ z => by cases z) ?_
  intro cI cL as h K hT
  match as, hT with
  | [.ref 10, .int x, .int y], hT =>
  obtain ⟨P, ⟨⟨th, x0, y0, wd, hi⟩, ⟨sc, dt, dw, eq, ea, lg, wm⟩, ⟨ch, de, sn⟩, ⟨si, su, fa, cn⟩, ⟨an, vs, vd⟩⟩, r, rfl, hU⟩ := hT
  replace hT := hU
  clear hU
  refine ⟨by simp [Value.category], by simp, fun Jd hc => zw_sound (J := fun _ => none) hc (fun _ _ z => by cases z) 18 0 _ _ _ _ _ _ ?_⟩
  simp (maxSteps := 4000000) only [zlc, zif0, zf3, D_MO_placeOf, G_MO_k, hM, hMc, hP_g, hP_s, hP_l, rdM_k, zvi, Classical.not_not, zw_S, zk_iconst, zk_bipush, zk_sipush, zk_ldc, zk_ldc_w, zk_aconst_null, zk_iload_n, zk_iload, zk_aload_n, zk_aload, zk_istore_n, zk_istore, zk_astore_n, zk_astore, zk_iinc, zk_iadd, zk_isub, zk_imul, zk_idiv, zk_iand, zk_ior, zk_ixor, zk_ishl, zk_ishr, zk_iushr, zk_i2l, zk_lcmp, zk_dup, zk_pop, zk_dup_x1, zk_dup2, zk_dup_x2, zk_goto, zk_ifCond, zk_if_icmp, zk_tableswitch, zk_getfield, zk_putfield, zk_iaload, zk_iastore, zk_laload, zk_lastore, zk_arraylength, zk_invokestatic, zk_invokevirtual, zk_invokespecial, zk_new, zk_newarray, zk_ireturn, zk_areturn, zk_return_, zi1_k, zi2_k, zr1_k, zri_k, zrii_k, zril_k, zvr_k, zl2_k, zv1_k, zv2_k, zv3_k, zli_k, zlr_k, zob_k, zai_k, zal_k, zfv_k, zlim_k, zlrm_k, zobm_k, zaim_k, zalm_k, zfvm_k, zgetf_k, zput_k, zcal_k, zrv_n, zrv_s, zswT_n, zswT_c, zgo_k, zcc_eq, zcc_ne, zcc_lt, zcc_ge, zcc_gt, zcc_le, zldj_k, zexc_k, znew_k, zial_k, zct_i, zct_l, zct_r, zct_n, zKK_r, zKK_x, znr_i, znr_0, znr_1, znr_v, znr_a, znr_o, znar_i, znar_r, znar_a, zfit_i, zfit_r, zfit_a, zbc, zlit, eq_self, List.getElem?_cons_zero, List.getElem?_cons_succ, List.set_cons_zero, List.set_cons_succ, List.take_succ_cons, List.take_zero, List.drop_succ_cons, List.drop_zero, List.reverse_cons, List.reverse_nil, List.nil_append, List.cons_append, List.append_nil, List.length_cons, List.length_nil, List.map_cons, List.map_nil, List.sum_cons, List.sum_nil, Option.toList_some, Option.toList_none, Nat.zero_add, Nat.add_zero, Bool.or_false, Bool.false_or, Bool.or_true, Bool.true_or, Bool.not_true, Bool.not_false, ge_iff_le, Fin.isValue, Fin.val_zero, Fin.val_one, Fin.val_two, true_and, and_true, true_implies, false_implies, forall_const, if_true, if_false, ite_true, ite_false, reduceIte, reduceCtorEq, true_or, or_true, and_self, implies_true, not_false_eq_true, not_true_eq_false, Nat.le_refl, Nat.zero_le, and_false, false_and, Nat.reduceAdd, Nat.reduceSub, Nat.reduceLT, Nat.reduceLeDiff, Nat.reduceMul, Nat.reduceEqDiff, Int.reduceAdd, Int.reduceNeg, Int.reduceToNat, Int.reduceLE, Int.reduceNatCast, Int.reduceSub, Int.reduceLT, Int.reduceEq, List.replicate_zero, List.replicate_succ, Int.reduceNatCast', Int32.reduceOfInt, Int32.reduceLT, Int32.reduceLE, Int32.reduceAdd, Int32.reduceSub, Int32.reduceMul, Int32.reduceToInt, Int32.reduceToNatClampNeg]
  replace hT : K (.inl (some (.int (g_MO_placeOf ((th, x0, y0, wd, hi), (sc, dt, dw, eq, ea, lg, wm), (ch, de, sn), (si, su, fa, cn), (an, vs, vd)) x y)))) (hM cI P ((th, x0, y0, wd, hi), (sc, dt, dw, eq, ea, lg, wm), (ch, de, sn), (si, su, fa, cn), (an, vs, vd)) r) := hT
  simp only [g_MO_placeOf, zKi K, Classical.not_not, hM, hMc] at hT
  exact hT
def f_opn (sc s0 s1 s2 s3 hs x y : Int32) : Int32 := if hs = 0 then 0 else if sc = 0 then 1 else if x < s0 then 0 else if y < s1 then 0 else if s2 ≤ x then 0 else if y < s3 then 1 else 0
def g_MO_isOpen (m : mSt) (x y : Int32) : Int32 := match m with
  | ((th, x0, y0, wd, hi), (sc, dt, dw, eq, ea, lg, wm), (ch, de, sn), (si, su, fa, cn), (an, vs, vd)) => f_opn sc (si 0) (si 1) (si 2) (si 3) (f_has x0 y0 wd hi x y) x y
def T_MO_isOpen : ClassId → ClassId → zT := fun cI _ as h K => match as with
  | [.ref 10, .int x, .int y] => rdM cI h (fun put m => K (.inl (some (.int (g_MO_isOpen m x y)))) (put m))
  | _ => False
def E_MO_isOpen : ClassId → ClassId → Nat → Nat → Option zEn := fun cI cL kd i => match kd, i with
  | 1, 86 => some (3, some 5, true, true, 0, 0, T_MO_isInFrame cI cL)
  | _, _ => none
theorem E_MO_isOpen_k : (∀ cI cL, E_MO_isOpen cI cL 1 86 = some (3, some 5, true, true, 0, 0, T_MO_isInFrame cI cL)) := fun _ _ => rfl
set_option maxHeartbeats 4000000 in
set_option maxRecDepth 100000 in
theorem C_MO_isOpen {l : Launch} (hl : l.stackTraces = false) : zC l y_MO_isOpen (Cond.code y_MO_isOpen prog_8_method_14_code 4 (some .boolean) :: wsG) (rmL 2 0 0) zcl true 0 0 T_MO_isOpen := by
  refine zC_of (G := G_MO) (E := E_MO_isOpen) (X := zXn) (SL := zSn) (NW := zNn) (CS := zCn) (ctor := false) hl (by decide) rfl rfl rfl G_MO_ok (fun z => by cases z) (fun _ _ z => by cases z) (fun _ _ _ _ z => by cases z) (List.mem_cons_of_mem _ ka_i) (fun _ _ _ z => by cases z) (fun _ z => by cases z) (by
    intro p e s m args below meth c D A cI cL hx hb hml hown hts hK hA hEX kd idx en hE
    unfold E_MO_isOpen at hE
    split at hE
    · cases hE; exact zRow_V (C_MO_isInFrame hl) rfl (Or.inl ⟨_, _, rfl⟩) hx hb hml hown hts hK hA hEX (hin_c kb_MO_isInFrame) (List.mem_cons_of_mem _ kn_MO) (List.mem_cons_of_mem _ ki_MO_isInFrame) (List.mem_cons_of_mem _ kv_MO_isInFrame) rfl (Or.inl (List.mem_cons_of_mem _ km_MO_86)) (by decide) (by decide) (by decide) rfl rfl
    · cases hE) ?_
  intro cI cL as h K hT
  match as, hT with
  | [.ref 10, .int x, .int y], hT =>
  obtain ⟨P, ⟨⟨th, x0, y0, wd, hi⟩, ⟨sc, dt, dw, eq, ea, lg, wm⟩, ⟨ch, de, sn⟩, ⟨si, su, fa, cn⟩, ⟨an, vs, vd⟩⟩, r, rfl, hU⟩ := hT
  replace hT := hU
  clear hU
  refine ⟨by simp [Value.category], by simp, fun Jd hc => zw_sound (J := fun _ => none) hc (fun _ _ z => by cases z) 47 0 _ _ _ _ _ _ ?_⟩
  simp (maxSteps := 4000000) only [zlc, zif0, zf3, D_MO_isOpen, G_MO_k, E_MO_isOpen_k, T_MO_isInFrame, g_MO_isInFrame, hM, hMc, hP_g, hP_s, hP_l, rdM_k, zvi, Classical.not_not, zw_S, zk_iconst, zk_bipush, zk_sipush, zk_ldc, zk_ldc_w, zk_aconst_null, zk_iload_n, zk_iload, zk_aload_n, zk_aload, zk_istore_n, zk_istore, zk_astore_n, zk_astore, zk_iinc, zk_iadd, zk_isub, zk_imul, zk_idiv, zk_iand, zk_ior, zk_ixor, zk_ishl, zk_ishr, zk_iushr, zk_i2l, zk_lcmp, zk_dup, zk_pop, zk_dup_x1, zk_dup2, zk_dup_x2, zk_goto, zk_ifCond, zk_if_icmp, zk_tableswitch, zk_getfield, zk_putfield, zk_iaload, zk_iastore, zk_laload, zk_lastore, zk_arraylength, zk_invokestatic, zk_invokevirtual, zk_invokespecial, zk_new, zk_newarray, zk_ireturn, zk_areturn, zk_return_, zi1_k, zi2_k, zr1_k, zri_k, zrii_k, zril_k, zvr_k, zl2_k, zv1_k, zv2_k, zv3_k, zli_k, zlr_k, zob_k, zai_k, zal_k, zfv_k, zlim_k, zlrm_k, zobm_k, zaim_k, zalm_k, zfvm_k, zgetf_k, zput_k, zcal_k, zrv_n, zrv_s, zswT_n, zswT_c, zgo_k, zcc_eq, zcc_ne, zcc_lt, zcc_ge, zcc_gt, zcc_le, zldj_k, zexc_k, znew_k, zial_k, zct_i, zct_l, zct_r, zct_n, zKK_r, zKK_x, znr_i, znr_0, znr_1, znr_v, znr_a, znr_o, znar_i, znar_r, znar_a, zfit_i, zfit_r, zfit_a, zbc, zlit, eq_self, List.getElem?_cons_zero, List.getElem?_cons_succ, List.set_cons_zero, List.set_cons_succ, List.take_succ_cons, List.take_zero, List.drop_succ_cons, List.drop_zero, List.reverse_cons, List.reverse_nil, List.nil_append, List.cons_append, List.append_nil, List.length_cons, List.length_nil, List.map_cons, List.map_nil, List.sum_cons, List.sum_nil, Option.toList_some, Option.toList_none, Nat.zero_add, Nat.add_zero, Bool.or_false, Bool.false_or, Bool.or_true, Bool.true_or, Bool.not_true, Bool.not_false, ge_iff_le, Fin.isValue, Fin.val_zero, Fin.val_one, Fin.val_two, true_and, and_true, true_implies, false_implies, forall_const, if_true, if_false, ite_true, ite_false, reduceIte, reduceCtorEq, true_or, or_true, and_self, implies_true, not_false_eq_true, not_true_eq_false, Nat.le_refl, Nat.zero_le, and_false, false_and, Nat.reduceAdd, Nat.reduceSub, Nat.reduceLT, Nat.reduceLeDiff, Nat.reduceMul, Nat.reduceEqDiff, Int.reduceAdd, Int.reduceNeg, Int.reduceToNat, Int.reduceLE, Int.reduceNatCast, Int.reduceSub, Int.reduceLT, Int.reduceEq, List.replicate_zero, List.replicate_succ, Int.reduceNatCast', Int32.reduceOfInt, Int32.reduceLT, Int32.reduceLE, Int32.reduceAdd, Int32.reduceSub, Int32.reduceMul, Int32.reduceToInt, Int32.reduceToNatClampNeg]
  repeat' (first | (intro _) | (apply And.intro))
  all_goals (first | exact hT | (simp only [g_MO_isOpen, f_opn, hM, hMc, *, if_true, if_false, reduceIte, not_true_eq_false, not_false_eq_true] at hT; exact hT) | (simp [g_MO_isOpen, f_opn, hM, hMc, *] at hT; exact hT) | (simp [g_MO_isOpen, f_opn, hM, hMc, *] at hT ⊢; exact hT) | (simp_all [g_MO_isOpen, f_opn, hM, hMc]; done))
def g_th (a b : Int32) : Int32 := if a = 0 then (if b = 0 then 0 else 2) else 1
def g_rf (a b : Int32) : Int32 := if a = 0 then (if b = 0 then 0 else 1) else 1
theorem rfk : (g_th 0 0 = 0) ∧ (g_th 1 0 = 1) ∧ (g_th 0 1 = 2) ∧ (g_th 1 1 = 1) ∧ (g_rf 0 0 = 0) ∧ (g_rf 1 0 = 1) ∧ (g_rf 0 1 = 1) ∧ (g_rf 1 1 = 1) := by decide
def f_MO_refuse (m : mSt) (a b : Int32) : zO × mSt := match m with
  | ((th, x0, y0, wd, hi), (sc, dt, dw, eq, ea, lg, wm), (ch, de, sn), (si, su, fa, cn), (an, vs, vd)) => (.inl (some (.int (g_rf a b))), ((g_th a b, x0, y0, wd, hi), (sc, dt, dw, eq, ea, lg, wm), (ch, de, sn), (si, su, fa, cn), (an, vs, vd)))
def T_MO_refuse : ClassId → ClassId → zT := fun cI _ as h K => match as with
  | [.ref 10, .int a, .int b] => rdM cI h (fun put m => K (f_MO_refuse m a b).1 (put (f_MO_refuse m a b).2))
  | _ => False
set_option maxHeartbeats 4000000 in
set_option maxRecDepth 100000 in
theorem C_MO_refuse {l : Launch} (hl : l.stackTraces = false) : zC l y_MO_refuse (Cond.code y_MO_refuse prog_8_method_3_code 3 (some .boolean) :: wsG) (rmL 1 0 0) zcl false 0 0 T_MO_refuse := by
  refine zC_of (G := G_MO) (E := zEn0) (X := zXn) (SL := zSn) (NW := zNn) (CS := zCn) (ctor := false) hl (by decide) rfl rfl rfl G_MO_ok (fun z => by cases z) (fun _ _ z => by cases z) (fun _ _ _ _ z => by cases z) (List.mem_cons_of_mem _ ka_i) (fun _ _ _ z => by cases z) (fun _ z => by cases z) (fun _ _ _ _ _ _ _ _ _ _ _ _ _ _ _ _ _ _ _ _ _ _ _ z => by cases z) ?_
  intro cI cL as h K hT
  match as, hT with
  | [.ref 10, .int a, .int b], hT =>
  obtain ⟨P, ⟨⟨th, x0, y0, wd, hi⟩, ⟨sc, dt, dw, eq, ea, lg, wm⟩, ⟨ch, de, sn⟩, ⟨si, su, fa, cn⟩, ⟨an, vs, vd⟩⟩, r, rfl, hU⟩ := hT
  replace hT := hU
  clear hU
  refine ⟨by simp [Value.category], by simp, fun Jd hc => zw_sound (J := fun _ => none) hc (fun _ _ z => by cases z) 23 0 _ _ _ _ _ _ ?_⟩
  simp (maxSteps := 4000000) only [zlc, zif0, zf3, D_MO_refuse, G_MO_k, hM, hMc, hP_g, hP_s, hP_l, rdM_k, zvi, Classical.not_not, zw_S, zk_iconst, zk_bipush, zk_sipush, zk_ldc, zk_ldc_w, zk_aconst_null, zk_iload_n, zk_iload, zk_aload_n, zk_aload, zk_istore_n, zk_istore, zk_astore_n, zk_astore, zk_iinc, zk_iadd, zk_isub, zk_imul, zk_idiv, zk_iand, zk_ior, zk_ixor, zk_ishl, zk_ishr, zk_iushr, zk_i2l, zk_lcmp, zk_dup, zk_pop, zk_dup_x1, zk_dup2, zk_dup_x2, zk_goto, zk_ifCond, zk_if_icmp, zk_tableswitch, zk_getfield, zk_putfield, zk_iaload, zk_iastore, zk_laload, zk_lastore, zk_arraylength, zk_invokestatic, zk_invokevirtual, zk_invokespecial, zk_new, zk_newarray, zk_ireturn, zk_areturn, zk_return_, zi1_k, zi2_k, zr1_k, zri_k, zrii_k, zril_k, zvr_k, zl2_k, zv1_k, zv2_k, zv3_k, zli_k, zlr_k, zob_k, zai_k, zal_k, zfv_k, zlim_k, zlrm_k, zobm_k, zaim_k, zalm_k, zfvm_k, zgetf_k, zput_k, zcal_k, zrv_n, zrv_s, zswT_n, zswT_c, zgo_k, zcc_eq, zcc_ne, zcc_lt, zcc_ge, zcc_gt, zcc_le, zldj_k, zexc_k, znew_k, zial_k, zct_i, zct_l, zct_r, zct_n, zKK_r, zKK_x, znr_i, znr_0, znr_1, znr_v, znr_a, znr_o, znar_i, znar_r, znar_a, zfit_i, zfit_r, zfit_a, zbc, zlit, eq_self, List.getElem?_cons_zero, List.getElem?_cons_succ, List.set_cons_zero, List.set_cons_succ, List.take_succ_cons, List.take_zero, List.drop_succ_cons, List.drop_zero, List.reverse_cons, List.reverse_nil, List.nil_append, List.cons_append, List.append_nil, List.length_cons, List.length_nil, List.map_cons, List.map_nil, List.sum_cons, List.sum_nil, Option.toList_some, Option.toList_none, Nat.zero_add, Nat.add_zero, Bool.or_false, Bool.false_or, Bool.or_true, Bool.true_or, Bool.not_true, Bool.not_false, ge_iff_le, Fin.isValue, Fin.val_zero, Fin.val_one, Fin.val_two, true_and, and_true, true_implies, false_implies, forall_const, if_true, if_false, ite_true, ite_false, reduceIte, reduceCtorEq, true_or, or_true, and_self, implies_true, not_false_eq_true, not_true_eq_false, Nat.le_refl, Nat.zero_le, and_false, false_and, Nat.reduceAdd, Nat.reduceSub, Nat.reduceLT, Nat.reduceLeDiff, Nat.reduceMul, Nat.reduceEqDiff, Int.reduceAdd, Int.reduceNeg, Int.reduceToNat, Int.reduceLE, Int.reduceNatCast, Int.reduceSub, Int.reduceLT, Int.reduceEq, List.replicate_zero, List.replicate_succ, Int.reduceNatCast', Int32.reduceOfInt, Int32.reduceLT, Int32.reduceLE, Int32.reduceAdd, Int32.reduceSub, Int32.reduceMul, Int32.reduceToInt, Int32.reduceToNatClampNeg]
  repeat' (first | (intro _) | (apply And.intro))
  all_goals (first | exact hT | (simp only [f_MO_refuse, g_th, g_rf, hM, hMc, *, if_true, if_false, reduceIte, not_true_eq_false, not_false_eq_true] at hT; exact hT) | (simp [f_MO_refuse, g_th, g_rf, hM, hMc, *] at hT; exact hT) | (simp [f_MO_refuse, g_th, g_rf, hM, hMc, *] at hT ⊢; exact hT) | (simp_all [f_MO_refuse, g_th, g_rf, hM, hMc]; done))
def f_MO_writeStencil (m : mSt) (p v w : Int32) : zO × mSt := match m with
  | ((th, x0, y0, wd, hi), (sc, dt, dw, eq, ea, lg, wm), (ch, de, sn), (si, su, fa, cn), (an, vs, vd)) => (.inl none, ((th, x0, y0, wd, hi), (sc, dt, dw, eq, ea, lg, wm), (ch, de, (upd sn p.toNatClampNeg (f_mrg (sn p.toNatClampNeg) v w))), (si, su, fa, cn), (an, vs, vd)))
def p_MO_writeStencil (m : mSt) (p v w : Int32) : Prop := match m with
  | ((th, x0, y0, wd, hi), (sc, dt, dw, eq, ea, lg, wm), (ch, de, sn), (si, su, fa, cn), (an, vs, vd)) => vp_in p 4096
def T_MO_writeStencil : ClassId → ClassId → zT := fun cI _ as h K => match as with
  | [.ref 10, .int p, .int v, .int w] => rdM cI h (fun put m => p_MO_writeStencil m p v w ∧ K (f_MO_writeStencil m p v w).1 (put (f_MO_writeStencil m p v w).2))
  | _ => False
set_option maxHeartbeats 4000000 in
set_option maxRecDepth 100000 in
theorem C_MO_writeStencil {l : Launch} (hl : l.stackTraces = false) : zC l y_MO_writeStencil (Cond.code y_MO_writeStencil prog_8_method_16_code 4 none :: wsG) (rmL 1 0 0) zcl false 0 0 T_MO_writeStencil := by
  refine zC_of (G := G_MO) (E := zEn0) (X := zXn) (SL := zSn) (NW := zNn) (CS := zCn) (ctor := false) hl (by decide) rfl rfl rfl G_MO_ok (fun z => by cases z) (fun _ _ z => by cases z) (fun _ _ _ _ z => by cases z) (List.mem_cons_of_mem _ ka_i) (fun _ _ _ z => by cases z) (fun _ z => by cases z) (fun _ _ _ _ _ _ _ _ _ _ _ _ _ _ _ _ _ _ _ _ _ _ _ z => by cases z) ?_
  intro cI cL as h K hT
  match as, hT with
  | [.ref 10, .int p, .int v, .int w], hT =>
  obtain ⟨P, ⟨⟨th, x0, y0, wd, hi⟩, ⟨sc, dt, dw, eq, ea, lg, wm⟩, ⟨ch, de, sn⟩, ⟨si, su, fa, cn⟩, ⟨an, vs, vd⟩⟩, r, rfl, hp, hU⟩ := hT
  replace hT := hU
  clear hU
  refine ⟨by simp [Value.category], by simp, fun Jd hc => zw_sound (J := fun _ => none) hc (fun _ _ z => by cases z) 22 0 _ _ _ _ _ _ ?_⟩
  simp (maxSteps := 4000000) only [zlc, zif0, zf3, D_MO_writeStencil, G_MO_k, hM, hMc, hP_g, hP_s, hP_l, rdM_k, zvi, Classical.not_not, zw_S, zk_iconst, zk_bipush, zk_sipush, zk_ldc, zk_ldc_w, zk_aconst_null, zk_iload_n, zk_iload, zk_aload_n, zk_aload, zk_istore_n, zk_istore, zk_astore_n, zk_astore, zk_iinc, zk_iadd, zk_isub, zk_imul, zk_idiv, zk_iand, zk_ior, zk_ixor, zk_ishl, zk_ishr, zk_iushr, zk_i2l, zk_lcmp, zk_dup, zk_pop, zk_dup_x1, zk_dup2, zk_dup_x2, zk_goto, zk_ifCond, zk_if_icmp, zk_tableswitch, zk_getfield, zk_putfield, zk_iaload, zk_iastore, zk_laload, zk_lastore, zk_arraylength, zk_invokestatic, zk_invokevirtual, zk_invokespecial, zk_new, zk_newarray, zk_ireturn, zk_areturn, zk_return_, zi1_k, zi2_k, zr1_k, zri_k, zrii_k, zril_k, zvr_k, zl2_k, zv1_k, zv2_k, zv3_k, zli_k, zlr_k, zob_k, zai_k, zal_k, zfv_k, zlim_k, zlrm_k, zobm_k, zaim_k, zalm_k, zfvm_k, zgetf_k, zput_k, zcal_k, zrv_n, zrv_s, zswT_n, zswT_c, zgo_k, zcc_eq, zcc_ne, zcc_lt, zcc_ge, zcc_gt, zcc_le, zldj_k, zexc_k, znew_k, zial_k, zct_i, zct_l, zct_r, zct_n, zKK_r, zKK_x, znr_i, znr_0, znr_1, znr_v, znr_a, znr_o, znar_i, znar_r, znar_a, zfit_i, zfit_r, zfit_a, zbc, zlit, eq_self, List.getElem?_cons_zero, List.getElem?_cons_succ, List.set_cons_zero, List.set_cons_succ, List.take_succ_cons, List.take_zero, List.drop_succ_cons, List.drop_zero, List.reverse_cons, List.reverse_nil, List.nil_append, List.cons_append, List.append_nil, List.length_cons, List.length_nil, List.map_cons, List.map_nil, List.sum_cons, List.sum_nil, Option.toList_some, Option.toList_none, Nat.zero_add, Nat.add_zero, Bool.or_false, Bool.false_or, Bool.or_true, Bool.true_or, Bool.not_true, Bool.not_false, ge_iff_le, Fin.isValue, Fin.val_zero, Fin.val_one, Fin.val_two, true_and, and_true, true_implies, false_implies, forall_const, if_true, if_false, ite_true, ite_false, reduceIte, reduceCtorEq, true_or, or_true, and_self, implies_true, not_false_eq_true, not_true_eq_false, Nat.le_refl, Nat.zero_le, and_false, false_and, Nat.reduceAdd, Nat.reduceSub, Nat.reduceLT, Nat.reduceLeDiff, Nat.reduceMul, Nat.reduceEqDiff, Int.reduceAdd, Int.reduceNeg, Int.reduceToNat, Int.reduceLE, Int.reduceNatCast, Int.reduceSub, Int.reduceLT, Int.reduceEq, List.replicate_zero, List.replicate_succ, Int.reduceNatCast', Int32.reduceOfInt, Int32.reduceLT, Int32.reduceLE, Int32.reduceAdd, Int32.reduceSub, Int32.reduceMul, Int32.reduceToInt, Int32.reduceToNatClampNeg]
  have hp : vp_in p 4096 := hp
  refine ⟨hp, hp, ?_⟩
  simp only [f_MO_writeStencil, f_mrg] at hT
  simp only [hM, hMc] at hT
  exact hT
def f_MO_answer (m : mSt) (n : Int32) : zO × mSt := match m with
  | ((th, x0, y0, wd, hi), (sc, dt, dw, eq, ea, lg, wm), (ch, de, sn), (si, su, fa, cn), (an, vs, vd)) => (.inl (some (.int n)), ((th, x0, y0, wd, hi), (sc, dt, dw, eq, ea, lg, wm), (ch, de, sn), (si, su, fa, cn), ((upd an n.toNatClampNeg (an n.toNatClampNeg + 1)), vs, vd)))
def p_MO_answer (m : mSt) (n : Int32) : Prop := match m with
  | ((th, x0, y0, wd, hi), (sc, dt, dw, eq, ea, lg, wm), (ch, de, sn), (si, su, fa, cn), (an, vs, vd)) => vp_in n 4
def T_MO_answer : ClassId → ClassId → zT := fun cI _ as h K => match as with
  | [.ref 10, .int n] => rdM cI h (fun put m => p_MO_answer m n ∧ K (f_MO_answer m n).1 (put (f_MO_answer m n).2))
  | _ => False
set_option maxHeartbeats 4000000 in
set_option maxRecDepth 100000 in
theorem C_MO_answer {l : Launch} (hl : l.stackTraces = false) : zC l y_MO_answer (Cond.code y_MO_answer prog_8_method_26_code 2 (some .int) :: wsG) (rmL 1 0 0) zcl false 0 0 T_MO_answer := by
  refine zC_of (G := G_MO) (E := zEn0) (X := zXn) (SL := zSn) (NW := zNn) (CS := zCn) (ctor := false) hl (by decide) rfl rfl rfl G_MO_ok (fun z => by cases z) (fun _ _ z => by cases z) (fun _ _ _ _ z => by cases z) (List.mem_cons_of_mem _ ka_i) (fun _ _ _ z => by cases z) (fun _ z => by cases z) (fun _ _ _ _ _ _ _ _ _ _ _ _ _ _ _ _ _ _ _ _ _ _ _ z => by cases z) ?_
  intro cI cL as h K hT
  match as, hT with
  | [.ref 10, .int n], hT =>
  obtain ⟨P, ⟨⟨th, x0, y0, wd, hi⟩, ⟨sc, dt, dw, eq, ea, lg, wm⟩, ⟨ch, de, sn⟩, ⟨si, su, fa, cn⟩, ⟨an, vs, vd⟩⟩, r, rfl, hp, hU⟩ := hT
  replace hT := hU
  clear hU
  refine ⟨by simp [Value.category], by simp, fun Jd hc => zw_sound (J := fun _ => none) hc (fun _ _ z => by cases z) 15 0 _ _ _ _ _ _ ?_⟩
  simp (maxSteps := 4000000) only [zlc, zif0, zf3, D_MO_answer, G_MO_k, hM, hMc, hP_g, hP_s, hP_l, rdM_k, zvi, Classical.not_not, zw_S, zk_iconst, zk_bipush, zk_sipush, zk_ldc, zk_ldc_w, zk_aconst_null, zk_iload_n, zk_iload, zk_aload_n, zk_aload, zk_istore_n, zk_istore, zk_astore_n, zk_astore, zk_iinc, zk_iadd, zk_isub, zk_imul, zk_idiv, zk_iand, zk_ior, zk_ixor, zk_ishl, zk_ishr, zk_iushr, zk_i2l, zk_lcmp, zk_dup, zk_pop, zk_dup_x1, zk_dup2, zk_dup_x2, zk_goto, zk_ifCond, zk_if_icmp, zk_tableswitch, zk_getfield, zk_putfield, zk_iaload, zk_iastore, zk_laload, zk_lastore, zk_arraylength, zk_invokestatic, zk_invokevirtual, zk_invokespecial, zk_new, zk_newarray, zk_ireturn, zk_areturn, zk_return_, zi1_k, zi2_k, zr1_k, zri_k, zrii_k, zril_k, zvr_k, zl2_k, zv1_k, zv2_k, zv3_k, zli_k, zlr_k, zob_k, zai_k, zal_k, zfv_k, zlim_k, zlrm_k, zobm_k, zaim_k, zalm_k, zfvm_k, zgetf_k, zput_k, zcal_k, zrv_n, zrv_s, zswT_n, zswT_c, zgo_k, zcc_eq, zcc_ne, zcc_lt, zcc_ge, zcc_gt, zcc_le, zldj_k, zexc_k, znew_k, zial_k, zct_i, zct_l, zct_r, zct_n, zKK_r, zKK_x, znr_i, znr_0, znr_1, znr_v, znr_a, znr_o, znar_i, znar_r, znar_a, zfit_i, zfit_r, zfit_a, zbc, zlit, eq_self, List.getElem?_cons_zero, List.getElem?_cons_succ, List.set_cons_zero, List.set_cons_succ, List.take_succ_cons, List.take_zero, List.drop_succ_cons, List.drop_zero, List.reverse_cons, List.reverse_nil, List.nil_append, List.cons_append, List.append_nil, List.length_cons, List.length_nil, List.map_cons, List.map_nil, List.sum_cons, List.sum_nil, Option.toList_some, Option.toList_none, Nat.zero_add, Nat.add_zero, Bool.or_false, Bool.false_or, Bool.or_true, Bool.true_or, Bool.not_true, Bool.not_false, ge_iff_le, Fin.isValue, Fin.val_zero, Fin.val_one, Fin.val_two, true_and, and_true, true_implies, false_implies, forall_const, if_true, if_false, ite_true, ite_false, reduceIte, reduceCtorEq, true_or, or_true, and_self, implies_true, not_false_eq_true, not_true_eq_false, Nat.le_refl, Nat.zero_le, and_false, false_and, Nat.reduceAdd, Nat.reduceSub, Nat.reduceLT, Nat.reduceLeDiff, Nat.reduceMul, Nat.reduceEqDiff, Int.reduceAdd, Int.reduceNeg, Int.reduceToNat, Int.reduceLE, Int.reduceNatCast, Int.reduceSub, Int.reduceLT, Int.reduceEq, List.replicate_zero, List.replicate_succ, Int.reduceNatCast', Int32.reduceOfInt, Int32.reduceLT, Int32.reduceLE, Int32.reduceAdd, Int32.reduceSub, Int32.reduceMul, Int32.reduceToInt, Int32.reduceToNatClampNeg]
  have hp : vp_in n 4 := hp
  refine ⟨hp, hp, ?_⟩
  simp only [f_MO_answer] at hT
  simp only [hM, hMc] at hT
  exact hT
end
section
def f_hd (t a b : Int32) : Int32 := if a < b then (if t = 1 ∨ t = 3 ∨ t = 5 ∨ t = 7 then 1 else 0) else if b < a then (if t = 4 ∨ t = 5 ∨ t = 6 ∨ t = 7 then 1 else 0) else (if t = 2 ∨ t = 3 ∨ t = 6 ∨ t = 7 then 1 else 0)
def T_MO_holds : ClassId → ClassId → zT := fun _ _ as h K => match as with
  | [.int t, .int a, .int b] => K (.inl (some (.int (f_hd t a b)))) h
  | _ => False
set_option maxHeartbeats 4000000 in
set_option maxRecDepth 100000 in
theorem C_MO_holds {l : Launch} (hl : l.stackTraces = false) : zC l y_MO_holds (Cond.code y_MO_holds prog_8_method_18_code 6 (some .boolean) :: wsG) (rmL 1 0 0) zcl true 0 0 T_MO_holds := by
  refine zC_of (G := zGn) (E := zEn0) (X := zXn) (SL := zSn) (NW := zNn) (CS := zCn) (ctor := false) hl (by decide) rfl rfl rfl (fun _ _ _ _ _ z => by cases z) (fun z => by cases z) (fun _ _ z => by cases z) (fun _ _ _ _ z => by cases z) (List.mem_cons_of_mem _ ka_i) (fun _ _ _ z => by cases z) (fun _ z => by cases z) (fun _ _ _ _ _ _ _ _ _ _ _ _ _ _ _ _ _ _ _ _ _ _ _ z => by cases z) ?_
  intro cI cL as h K hT
  match as, hT with
  | [.int t, .int a, .int b], hT =>
  have hT : K (.inl (some (.int (f_hd t a b)))) h := hT
  refine ⟨by simp [Value.category], by simp, fun Jd hc => ?_⟩
  have nb : ∀ (c : Prop) [Decidable c], znr (some .boolean) (some (.int (if c then 1 else 0))) = True := fun c _ => by
    by_cases z : c
    · simp only [z, if_true]; exact znr_1
    · simp only [z, if_false]; exact znr_0
  have s85 : Jd 85 [some (.int t), some (.int a), some (.int b), some (.int (if t = 1 ∨ t = 3 ∨ t = 5 ∨ t = 7 then 1 else 0)), some (.int (if t = 2 ∨ t = 3 ∨ t = 6 ∨ t = 7 then 1 else 0)), some (.int (if t = 4 ∨ t = 5 ∨ t = 6 ∨ t = 7 then 1 else 0))] [] h false 0 0 := by
    refine zw_sound (J := fun _ => none) hc (fun _ _ z => by cases z) 15 85 _ _ _ _ _ _ ?_
    have n1 := nb (t = 1 ∨ t = 3 ∨ t = 5 ∨ t = 7)
    have n2 := nb (t = 2 ∨ t = 3 ∨ t = 6 ∨ t = 7)
    have n3 := nb (t = 4 ∨ t = 5 ∨ t = 6 ∨ t = 7)
    unfold f_hd at hT
    generalize (if t = 1 ∨ t = 3 ∨ t = 5 ∨ t = 7 then (1 : Int32) else 0) = be at *
    generalize (if t = 2 ∨ t = 3 ∨ t = 6 ∨ t = 7 then (1 : Int32) else 0) = li at *
    generalize (if t = 4 ∨ t = 5 ∨ t = 6 ∨ t = 7 then (1 : Int32) else 0) = ab at *
    simp (maxSteps := 4000000) only [n1, n2, n3, zlc, zif0, zf3, D_MO_holds, Classical.not_not, zw_S, zk_iconst, zk_bipush, zk_sipush, zk_ldc, zk_ldc_w, zk_aconst_null, zk_iload_n, zk_iload, zk_aload_n, zk_aload, zk_istore_n, zk_istore, zk_astore_n, zk_astore, zk_iinc, zk_iadd, zk_isub, zk_imul, zk_idiv, zk_iand, zk_ior, zk_ixor, zk_ishl, zk_ishr, zk_iushr, zk_i2l, zk_lcmp, zk_dup, zk_pop, zk_dup_x1, zk_dup2, zk_dup_x2, zk_goto, zk_ifCond, zk_if_icmp, zk_tableswitch, zk_getfield, zk_putfield, zk_iaload, zk_iastore, zk_laload, zk_lastore, zk_arraylength, zk_invokestatic, zk_invokevirtual, zk_invokespecial, zk_new, zk_newarray, zk_ireturn, zk_areturn, zk_return_, zi1_k, zi2_k, zr1_k, zri_k, zrii_k, zril_k, zvr_k, zl2_k, zv1_k, zv2_k, zv3_k, zli_k, zlr_k, zob_k, zai_k, zal_k, zfv_k, zlim_k, zlrm_k, zobm_k, zaim_k, zalm_k, zfvm_k, zgetf_k, zput_k, zcal_k, zrv_n, zrv_s, zswT_n, zswT_c, zgo_k, zcc_eq, zcc_ne, zcc_lt, zcc_ge, zcc_gt, zcc_le, zldj_k, zexc_k, znew_k, zial_k, zct_i, zct_l, zct_r, zct_n, zKK_r, zKK_x, znr_i, znr_0, znr_1, znr_v, znr_a, znr_o, znar_i, znar_r, znar_a, zfit_i, zfit_r, zfit_a, zbc, zlit, eq_self, List.getElem?_cons_zero, List.getElem?_cons_succ, List.set_cons_zero, List.set_cons_succ, List.take_succ_cons, List.take_zero, List.drop_succ_cons, List.drop_zero, List.reverse_cons, List.reverse_nil, List.nil_append, List.cons_append, List.append_nil, List.length_cons, List.length_nil, List.map_cons, List.map_nil, List.sum_cons, List.sum_nil, Option.toList_some, Option.toList_none, Nat.zero_add, Nat.add_zero, Bool.or_false, Bool.false_or, Bool.or_true, Bool.true_or, Bool.not_true, Bool.not_false, ge_iff_le, Fin.isValue, Fin.val_zero, Fin.val_one, Fin.val_two, true_and, and_true, true_implies, false_implies, forall_const, if_true, if_false, ite_true, ite_false, reduceIte, reduceCtorEq, true_or, or_true, and_self, implies_true, not_false_eq_true, not_true_eq_false, Nat.le_refl, Nat.zero_le, and_false, false_and, Nat.reduceAdd, Nat.reduceSub, Nat.reduceLT, Nat.reduceLeDiff, Nat.reduceMul, Nat.reduceEqDiff, Int.reduceAdd, Int.reduceNeg, Int.reduceToNat, Int.reduceLE, Int.reduceNatCast, Int.reduceSub, Int.reduceLT, Int.reduceEq, List.replicate_zero, List.replicate_succ, Int.reduceNatCast', Int32.reduceOfInt, Int32.reduceLT, Int32.reduceLE, Int32.reduceAdd, Int32.reduceSub, Int32.reduceMul, Int32.reduceToInt, Int32.reduceToNatClampNeg]
    refine ⟨fun z => ⟨fun z2 => ?_, fun z2 => ?_⟩, fun z => ?_⟩
    · rw [if_neg (Int32.not_lt.mpr z), if_neg (Int32.not_lt.mpr z2)] at hT; exact hT
    · rw [if_neg (Int32.not_lt.mpr z), if_pos (Int32.not_le.mp z2)] at hT; exact hT
    · rw [if_pos (Int32.not_le.mp z)] at hT; exact hT
  have s56 : Jd 56 [some (.int t), some (.int a), some (.int b), some (.int (if t = 1 ∨ t = 3 ∨ t = 5 ∨ t = 7 then 1 else 0)), some (.int (if t = 2 ∨ t = 3 ∨ t = 6 ∨ t = 7 then 1 else 0)), none] [] h false 0 0 := by
    refine z_to hc 85 20 ?_
    generalize (if t = 1 ∨ t = 3 ∨ t = 5 ∨ t = 7 then (1 : Int32) else 0) = be at *
    generalize (if t = 2 ∨ t = 3 ∨ t = 6 ∨ t = 7 then (1 : Int32) else 0) = li at *
    simp (maxSteps := 4000000) only [zlc, zif0, zf3, D_MO_holds, Classical.not_not, zw_J, zk_iconst, zk_bipush, zk_sipush, zk_ldc, zk_ldc_w, zk_aconst_null, zk_iload_n, zk_iload, zk_aload_n, zk_aload, zk_istore_n, zk_istore, zk_astore_n, zk_astore, zk_iinc, zk_iadd, zk_isub, zk_imul, zk_idiv, zk_iand, zk_ior, zk_ixor, zk_ishl, zk_ishr, zk_iushr, zk_i2l, zk_lcmp, zk_dup, zk_pop, zk_dup_x1, zk_dup2, zk_dup_x2, zk_goto, zk_ifCond, zk_if_icmp, zk_tableswitch, zk_getfield, zk_putfield, zk_iaload, zk_iastore, zk_laload, zk_lastore, zk_arraylength, zk_invokestatic, zk_invokevirtual, zk_invokespecial, zk_new, zk_newarray, zk_ireturn, zk_areturn, zk_return_, zi1_k, zi2_k, zr1_k, zri_k, zrii_k, zril_k, zvr_k, zl2_k, zv1_k, zv2_k, zv3_k, zli_k, zlr_k, zob_k, zai_k, zal_k, zfv_k, zlim_k, zlrm_k, zobm_k, zaim_k, zalm_k, zfvm_k, zgetf_k, zput_k, zcal_k, zrv_n, zrv_s, zswT_n, zswT_c, zgo_k, zcc_eq, zcc_ne, zcc_lt, zcc_ge, zcc_gt, zcc_le, zldj_k, zexc_k, znew_k, zial_k, zct_i, zct_l, zct_r, zct_n, zKK_r, zKK_x, znr_i, znr_0, znr_1, znr_v, znr_a, znr_o, znar_i, znar_r, znar_a, zfit_i, zfit_r, zfit_a, zbc, zlit, eq_self, List.getElem?_cons_zero, List.getElem?_cons_succ, List.set_cons_zero, List.set_cons_succ, List.take_succ_cons, List.take_zero, List.drop_succ_cons, List.drop_zero, List.reverse_cons, List.reverse_nil, List.nil_append, List.cons_append, List.append_nil, List.length_cons, List.length_nil, List.map_cons, List.map_nil, List.sum_cons, List.sum_nil, Option.toList_some, Option.toList_none, Nat.zero_add, Nat.add_zero, Bool.or_false, Bool.false_or, Bool.or_true, Bool.true_or, Bool.not_true, Bool.not_false, ge_iff_le, Fin.isValue, Fin.val_zero, Fin.val_one, Fin.val_two, true_and, and_true, true_implies, false_implies, forall_const, if_true, if_false, ite_true, ite_false, reduceIte, reduceCtorEq, true_or, or_true, and_self, implies_true, not_false_eq_true, not_true_eq_false, Nat.le_refl, Nat.zero_le, and_false, false_and, Nat.reduceAdd, Nat.reduceSub, Nat.reduceLT, Nat.reduceLeDiff, Nat.reduceMul, Nat.reduceEqDiff, Int.reduceAdd, Int.reduceNeg, Int.reduceToNat, Int.reduceLE, Int.reduceNatCast, Int.reduceSub, Int.reduceLT, Int.reduceEq, List.replicate_zero, List.replicate_succ, Int.reduceNatCast', Int32.reduceOfInt, Int32.reduceLT, Int32.reduceLE, Int32.reduceAdd, Int32.reduceSub, Int32.reduceMul, Int32.reduceToInt, Int32.reduceToNatClampNeg]
    clear nb hT
    repeat' (first | (intro _) | (apply And.intro))
    all_goals simp_all
  have s27 : Jd 27 [some (.int t), some (.int a), some (.int b), some (.int (if t = 1 ∨ t = 3 ∨ t = 5 ∨ t = 7 then 1 else 0)), none, none] [] h false 0 0 := by
    refine z_to hc 56 20 ?_
    generalize (if t = 1 ∨ t = 3 ∨ t = 5 ∨ t = 7 then (1 : Int32) else 0) = be at *
    simp (maxSteps := 4000000) only [zlc, zif0, zf3, D_MO_holds, Classical.not_not, zw_J, zk_iconst, zk_bipush, zk_sipush, zk_ldc, zk_ldc_w, zk_aconst_null, zk_iload_n, zk_iload, zk_aload_n, zk_aload, zk_istore_n, zk_istore, zk_astore_n, zk_astore, zk_iinc, zk_iadd, zk_isub, zk_imul, zk_idiv, zk_iand, zk_ior, zk_ixor, zk_ishl, zk_ishr, zk_iushr, zk_i2l, zk_lcmp, zk_dup, zk_pop, zk_dup_x1, zk_dup2, zk_dup_x2, zk_goto, zk_ifCond, zk_if_icmp, zk_tableswitch, zk_getfield, zk_putfield, zk_iaload, zk_iastore, zk_laload, zk_lastore, zk_arraylength, zk_invokestatic, zk_invokevirtual, zk_invokespecial, zk_new, zk_newarray, zk_ireturn, zk_areturn, zk_return_, zi1_k, zi2_k, zr1_k, zri_k, zrii_k, zril_k, zvr_k, zl2_k, zv1_k, zv2_k, zv3_k, zli_k, zlr_k, zob_k, zai_k, zal_k, zfv_k, zlim_k, zlrm_k, zobm_k, zaim_k, zalm_k, zfvm_k, zgetf_k, zput_k, zcal_k, zrv_n, zrv_s, zswT_n, zswT_c, zgo_k, zcc_eq, zcc_ne, zcc_lt, zcc_ge, zcc_gt, zcc_le, zldj_k, zexc_k, znew_k, zial_k, zct_i, zct_l, zct_r, zct_n, zKK_r, zKK_x, znr_i, znr_0, znr_1, znr_v, znr_a, znr_o, znar_i, znar_r, znar_a, zfit_i, zfit_r, zfit_a, zbc, zlit, eq_self, List.getElem?_cons_zero, List.getElem?_cons_succ, List.set_cons_zero, List.set_cons_succ, List.take_succ_cons, List.take_zero, List.drop_succ_cons, List.drop_zero, List.reverse_cons, List.reverse_nil, List.nil_append, List.cons_append, List.append_nil, List.length_cons, List.length_nil, List.map_cons, List.map_nil, List.sum_cons, List.sum_nil, Option.toList_some, Option.toList_none, Nat.zero_add, Nat.add_zero, Bool.or_false, Bool.false_or, Bool.or_true, Bool.true_or, Bool.not_true, Bool.not_false, ge_iff_le, Fin.isValue, Fin.val_zero, Fin.val_one, Fin.val_two, true_and, and_true, true_implies, false_implies, forall_const, if_true, if_false, ite_true, ite_false, reduceIte, reduceCtorEq, true_or, or_true, and_self, implies_true, not_false_eq_true, not_true_eq_false, Nat.le_refl, Nat.zero_le, and_false, false_and, Nat.reduceAdd, Nat.reduceSub, Nat.reduceLT, Nat.reduceLeDiff, Nat.reduceMul, Nat.reduceEqDiff, Int.reduceAdd, Int.reduceNeg, Int.reduceToNat, Int.reduceLE, Int.reduceNatCast, Int.reduceSub, Int.reduceLT, Int.reduceEq, List.replicate_zero, List.replicate_succ, Int.reduceNatCast', Int32.reduceOfInt, Int32.reduceLT, Int32.reduceLE, Int32.reduceAdd, Int32.reduceSub, Int32.reduceMul, Int32.reduceToInt, Int32.reduceToNatClampNeg]
    clear nb hT s85
    repeat' (first | (intro _) | (apply And.intro))
    all_goals simp_all
  refine z_to hc 27 20 ?_
  simp (maxSteps := 4000000) only [zlc, zif0, zf3, D_MO_holds, Classical.not_not, zw_J, zk_iconst, zk_bipush, zk_sipush, zk_ldc, zk_ldc_w, zk_aconst_null, zk_iload_n, zk_iload, zk_aload_n, zk_aload, zk_istore_n, zk_istore, zk_astore_n, zk_astore, zk_iinc, zk_iadd, zk_isub, zk_imul, zk_idiv, zk_iand, zk_ior, zk_ixor, zk_ishl, zk_ishr, zk_iushr, zk_i2l, zk_lcmp, zk_dup, zk_pop, zk_dup_x1, zk_dup2, zk_dup_x2, zk_goto, zk_ifCond, zk_if_icmp, zk_tableswitch, zk_getfield, zk_putfield, zk_iaload, zk_iastore, zk_laload, zk_lastore, zk_arraylength, zk_invokestatic, zk_invokevirtual, zk_invokespecial, zk_new, zk_newarray, zk_ireturn, zk_areturn, zk_return_, zi1_k, zi2_k, zr1_k, zri_k, zrii_k, zril_k, zvr_k, zl2_k, zv1_k, zv2_k, zv3_k, zli_k, zlr_k, zob_k, zai_k, zal_k, zfv_k, zlim_k, zlrm_k, zobm_k, zaim_k, zalm_k, zfvm_k, zgetf_k, zput_k, zcal_k, zrv_n, zrv_s, zswT_n, zswT_c, zgo_k, zcc_eq, zcc_ne, zcc_lt, zcc_ge, zcc_gt, zcc_le, zldj_k, zexc_k, znew_k, zial_k, zct_i, zct_l, zct_r, zct_n, zKK_r, zKK_x, znr_i, znr_0, znr_1, znr_v, znr_a, znr_o, znar_i, znar_r, znar_a, zfit_i, zfit_r, zfit_a, zbc, zlit, eq_self, List.getElem?_cons_zero, List.getElem?_cons_succ, List.set_cons_zero, List.set_cons_succ, List.take_succ_cons, List.take_zero, List.drop_succ_cons, List.drop_zero, List.reverse_cons, List.reverse_nil, List.nil_append, List.cons_append, List.append_nil, List.length_cons, List.length_nil, List.map_cons, List.map_nil, List.sum_cons, List.sum_nil, Option.toList_some, Option.toList_none, Nat.zero_add, Nat.add_zero, Bool.or_false, Bool.false_or, Bool.or_true, Bool.true_or, Bool.not_true, Bool.not_false, ge_iff_le, Fin.isValue, Fin.val_zero, Fin.val_one, Fin.val_two, true_and, and_true, true_implies, false_implies, forall_const, if_true, if_false, ite_true, ite_false, reduceIte, reduceCtorEq, true_or, or_true, and_self, implies_true, not_false_eq_true, not_true_eq_false, Nat.le_refl, Nat.zero_le, and_false, false_and, Nat.reduceAdd, Nat.reduceSub, Nat.reduceLT, Nat.reduceLeDiff, Nat.reduceMul, Nat.reduceEqDiff, Int.reduceAdd, Int.reduceNeg, Int.reduceToNat, Int.reduceLE, Int.reduceNatCast, Int.reduceSub, Int.reduceLT, Int.reduceEq, List.replicate_zero, List.replicate_succ, Int.reduceNatCast', Int32.reduceOfInt, Int32.reduceLT, Int32.reduceLE, Int32.reduceAdd, Int32.reduceSub, Int32.reduceMul, Int32.reduceToInt, Int32.reduceToNatClampNeg]
  clear nb hT s85 s56
  repeat' (first | (intro _) | (apply And.intro))
  all_goals simp_all
end
